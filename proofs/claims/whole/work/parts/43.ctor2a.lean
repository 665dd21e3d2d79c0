set_option maxRecDepth 100000 in
theorem mx_X9_48 : MX RX9 48 yJ0_length_8abf5 cJ0_length_8abf5 1 (some .int) 0 := ⟨gw_mem 273 (by decide +kernel) rfl, gw_mem 276 (by rfl) rfl, gw_mem 116 (by decide +kernel) rfl, gw_mem 274 (by decide +kernel) rfl, gw_mem 275 (by decide +kernel) rfl, by decide, by decide, by decide +kernel⟩
set_option maxRecDepth 100000 in
theorem mx_X9_54 : MX RX9 54 yJ0_charAt_5068e cJ0_charAt_5068e 2 (some .char) 1 := ⟨gw_mem 283 (by decide +kernel) rfl, gw_mem 286 (by rfl) rfl, gw_mem 116 (by decide +kernel) rfl, gw_mem 284 (by decide +kernel) rfl, gw_mem 285 (by decide +kernel) rfl, by decide, by decide, by decide +kernel⟩
def wch0 (k : Int32) : Int32 := (wordsB 0).getD (Int32.toNatClampNeg k) 0 &&& 255
def f_X9_init_L97 (v0 : Nat) (v1 : Int32) (v2 : Int32) (v3 : Int32) (μ : fMem) : Option (Nat × (Int32 × Int32 × fMem)) :=
  if ((v1 + (1 : Int32)) * (6 : Int32)) ≤ v3 then some (1, (v2, v3, μ)) else if (Int32.ofNat (lenW 0)) ≤ v3 then some (1, (v2, v3, μ)) else gd (ixo v3 (lenW 0)) (vl ((v2 * (32 : Int32)) + ((wch0 v3) &&& (31 : Int32))) fun x6 => vl (v3 + (1 : Int32)) fun x7 => some (0, (x6, x7, μ)))
def f_X9_init_L81 (v0 : Nat) (v1 : Int32) (μ : fMem) : Option (Nat × (Int32 × fMem)) :=
  if (20 : Int32) ≤ v1 then some (1, (v1, μ)) else vl (v1 * (6 : Int32)) fun x2 => bd (lpn (fun (q : Int32 × Int32 × fMem) => f_X9_init_L97 v0 v1 q.1 q.2.1 q.2.2) fuel ((0 : Int32), x2, μ)) fun t8 q9 => (fun (x10 : Int32) (x11 : Int32) (μ12 : fMem) => gd (ixo v1 20) (vl (sI μ12 (v0 + 1) (Int32.toNatClampNeg v1) x10) fun μ13 => vl (v1 + (1 : Int32)) fun x15 => some (0, (x15, μ13)))) q9.1 q9.2.1 q9.2.2
def f_X9_tail (v0 : Nat) (μ : fMem) : Option (Unit × fMem) :=
  bd (lpn (fun (q : Int32 × fMem) => f_X9_init_L81 v0 q.1 q.2) fuel ((0 : Int32), μ)) fun t17 q18 => (fun (x19 : Int32) (μ20 : fMem) => some ((), μ20)) q18.1 q18.2
abbrev WWc (p : Program) (l : Launch) (e : Env) (R : Room) (s : State) (m : MethodId) (args : Array Value) (below : List Frame) (meth : Method) (c : Code) (Q : State → Prop) (w : fW) (cl sl : Nat) (μ : fMem) (nL pc : Nat) (stk : List Value) (lv : List (Nat × Value)) : Prop :=
  ∀ (H : Heap) (locs : List Loc) (ls : Array Slot), fP w μ H → va_S (fA w) s.heap H locs → lv_has ls nL lv → W p l e R s m args below meth c H locs cl sl Q (F0 m pc ls stk)
set_option maxHeartbeats 4000000 in
set_option maxRecDepth 100000 in
theorem tail_X9 {p : Program} {l : Launch} {e : Env} {R : Room} {s : State} {m : MethodId} {args : Array Value} {below : List Frame} {meth : Method} {c : Code} {cl sl : Nat} {Q : State → Prop} {w : fW} (hJ : fJ w) (v0 : Nat) (hk0 : kd v0 = (4, 9)) (hi0 : inW w.2.2.2 v0) (hi1 : inW w.2.2.2 (v0 + 1)) (hz1 : w.2.2.2.2.2 v0 3 = true) (C : Cx p s m args meth c cX9_init 4 RX9 w) (hR : 4 ≤ R.frames ∧ 120 ≤ R.locals) (hz : cl ≤ R.cells ∧ sl ≤ R.slots) (μ μr : fMem) {r : Unit} (h : f_X9_tail v0 μ = some (r, μr)) (K : WWc p l e R s m args below meth c Q w cl sl μr 4 150 [] []) : WWc p l e R s m args below meth c Q w cl sl μ 4 79 [] [(0, .ref (w.2.2.1 v0))] := by
  intro H locs ls hP hS hl
  obtain ⟨hx, hb, hml, hown, hts, hK, -, hlk, hT⟩ := id C
  obtain ⟨-, -, hE, hZs, -⟩ := id hT
  unfold f_X9_tail at h
  refine lv_iconst (v := (0)) hx hb dX9_init_79 (by decide) ?_
  refine lv_istore_n (lv' := [(1, .int (0 : Int32)), (0, .ref (w.2.2.1 v0))]) hx hb dX9_init_80 rfl hl (by decide) rfl (fun ls hl => ?_)
  obtain ⟨t17, q18, h21, h⟩ := bd_ok h
  refine lpn_ind (b := (fun (q : Int32 × fMem) => f_X9_init_L81 v0 q.1 q.2)) (P := fun (q : Int32 × fMem) => WWc p l e R s m args below meth c Q w cl sl q.2 4 81 [] [(0, .ref (w.2.2.1 v0)), (1, .int q.1)]) (K := fun _ (q : Int32 × fMem) => WWc p l e R s m args below meth c Q w cl sl q.2 4 150 [] []) ?_ fuel ((0 : Int32), μ) t17 q18 h21 ?_ _ _ _ hP hS (lv_sub hl [1, 0] rfl)
  · intro q tz81 sz81 h hP0_81 hK0_81 H locs ls hP hS hl
    obtain ⟨v1, μ⟩ := q
    have hP : fP w μ H := hP
    have hl : lv_has ls 4 [(0, .ref (w.2.2.1 v0)), (1, .int v1)] := hl
    have h : f_X9_init_L81 v0 v1 μ = some (tz81, sz81) := h
    unfold f_X9_init_L81 at h
    refine lv_iload_n hx hb dX9_init_81 rfl (lv_at hl 1 rfl) ?_
    refine lv_aload_n hx hb dX9_init_82 rfl (lv_at hl 0 rfl) ?_
    refine r_getF (off := 1) C hP hi0 hk0 fl_X9_21 rfl rfl hz1 dX9_init_83 ?_
    refine r_alen (v := 20) C hP hi1 (Or.inl (ff_9_3 hk0).1) (by decide) dX9_init_86 ?_
    refine lv_icmp_ge (tgt := 150) hx hb dX9_init_87 (by decide) (fun c1 => ?_) (fun c1 => ?_)
    · replace h := if_t c1 h
      obtain ⟨rfl, rfl⟩ := leaf h
      exact (hK0_81 0 rfl) _ _ _ hP hS (lv_sub hl [] rfl)
    · replace h := if_f c1 h
      refine lv_iconst (v := (0)) hx hb dX9_init_90 (by decide) ?_
      refine lv_istore_n (lv' := [(2, .int (0 : Int32)), (0, .ref (w.2.2.1 v0)), (1, .int v1)]) hx hb dX9_init_91 rfl hl (by decide) rfl (fun ls hl => ?_)
      refine lv_iload_n hx hb dX9_init_92 rfl (lv_at hl 2 rfl) ?_
      refine lv_bipush (v := (6)) hx hb dX9_init_93 (by decide) ?_
      refine lv_imul hx hb dX9_init_95 ?_
      refine lv_topi (fun x2 ex2 => ?_)
      replace h := vl_ok ex2 h
      refine lv_istore_n (lv' := [(3, .int x2), (2, .int (0 : Int32)), (0, .ref (w.2.2.1 v0)), (1, .int v1)]) hx hb dX9_init_96 rfl hl (by decide) rfl (fun ls hl => ?_)
      obtain ⟨t8, q9, h16, h⟩ := bd_ok h
      refine lpn_ind (b := (fun (q : Int32 × Int32 × fMem) => f_X9_init_L97 v0 v1 q.1 q.2.1 q.2.2)) (P := fun (q : Int32 × Int32 × fMem) => WWc p l e R s m args below meth c Q w cl sl q.2.2 4 97 [] [(0, .ref (w.2.2.1 v0)), (1, .int v1), (2, .int q.1), (3, .int q.2.1)]) (K := fun _ (q : Int32 × Int32 × fMem) => WWc p l e R s m args below meth c Q w cl sl q.2.2 4 137 [] [(0, .ref (w.2.2.1 v0)), (1, .int v1), (2, .int q.1)]) ?_ fuel ((0 : Int32), x2, μ) t8 q9 h16 ?_ _ _ _ hP hS (lv_sub hl [2, 3, 1, 0] rfl)
      · intro q tz97 sz97 h hP0_97 hK0_97 H locs ls hP hS hl
        obtain ⟨v2, v3, μ⟩ := q
        have hP : fP w μ H := hP
        have hl : lv_has ls 4 [(0, .ref (w.2.2.1 v0)), (1, .int v1), (2, .int v2), (3, .int v3)] := hl
        have h : f_X9_init_L97 v0 v1 v2 v3 μ = some (tz97, sz97) := h
        unfold f_X9_init_L97 at h
        refine lv_iload_n hx hb dX9_init_97 rfl (lv_at hl 3 rfl) ?_
        refine lv_iload_n hx hb dX9_init_98 rfl (lv_at hl 1 rfl) ?_
        refine lv_iconst (v := (1)) hx hb dX9_init_99 (by decide) ?_
        refine lv_iadd hx hb dX9_init_100 ?_
        refine lv_bipush (v := (6)) hx hb dX9_init_101 (by decide) ?_
        refine lv_imul hx hb dX9_init_103 ?_
        refine lv_icmp_ge (tgt := 137) hx hb dX9_init_104 (by decide) (fun c3 => ?_) (fun c3 => ?_)
        · replace h := if_t c3 h
          obtain ⟨rfl, rfl⟩ := leaf h
          exact (hK0_97 0 rfl) _ _ _ hP hS (lv_sub hl [0, 1, 2] rfl)
        · replace h := if_f c3 h
          refine lv_iload_n hx hb dX9_init_107 rfl (lv_at hl 3 rfl) ?_
          refine va_ldcS hx hb hown hZs dX9_init_108 ?_
          refine go_i (callX_run (As := []) (rest := [.int v3]) C hl hP (hS.wide hJ).2.1 (vk_recv hE (by decide) (hS.wide hJ)) (t_length l w hJ 0 (by decide) μ) mx_X9_48 ⟨rfl, rfl, Nat.le_trans (by decide) hR.1, Nat.le_trans (by decide) hR.2⟩ rfl rfl (Nat.le_of_ble_eq_true rfl) hz dX9_init_110) hS (fun H locs hP hS => ?_)
          refine lv_icmp_ge (tgt := 137) hx hb dX9_init_113 (by decide) (fun c4 => ?_) (fun c4 => ?_)
          · replace h := if_t c4 h
            obtain ⟨rfl, rfl⟩ := leaf h
            exact (hK0_97 0 rfl) _ _ _ hP hS (lv_sub hl [0, 1, 2] rfl)
          · replace h := if_f c4 h
            refine lv_iload_n hx hb dX9_init_116 rfl (lv_at hl 2 rfl) ?_
            refine lv_bipush (v := (32)) hx hb dX9_init_117 (by decide) ?_
            refine lv_imul hx hb dX9_init_119 ?_
            refine va_ldcS hx hb hown hZs dX9_init_120 ?_
            refine lv_iload_n hx hb dX9_init_122 rfl (lv_at hl 3 rfl) ?_
            obtain ⟨g5, h⟩ := gd_ok h
            refine go_i (callX_run (As := [.int v3]) (rest := [.int (v2 * (32 : Int32))]) C hl hP (hS.wide hJ).2.1 (vk_recv hE (by decide) (hS.wide hJ)) (t_charAt l w hJ 0 (by decide) v3 g5 μ) mx_X9_54 ⟨rfl, rfl, Nat.le_trans (by decide) hR.1, Nat.le_trans (by decide) hR.2⟩ rfl rfl (Nat.le_of_ble_eq_true rfl) hz dX9_init_123) hS (fun H locs hP hS => ?_)
            refine lv_bipush (v := (31)) hx hb dX9_init_126 (by decide) ?_
            refine lv_iand hx hb dX9_init_128 ?_
            refine lv_iadd hx hb dX9_init_129 ?_
            refine lv_topi (fun x6 ex6 => ?_)
            replace h := vl_ok ex6 h
            refine lv_istore_n (lv' := [(2, .int x6), (0, .ref (w.2.2.1 v0)), (1, .int v1), (3, .int v3)]) hx hb dX9_init_130 rfl hl (by decide) rfl (fun ls hl => ?_)
            obtain ⟨x7, ex7⟩ : ∃ y : Int32, y = (v3 + (1 : Int32)) := ⟨_, rfl⟩
            replace h := vl_ok ex7 h
            refine lv_iinc (v := x7) (lv' := [(3, .int x7), (2, .int x6), (0, .ref (w.2.2.1 v0)), (1, .int v1)]) hx hb dX9_init_131 hl (k := 3) rfl (by rw [ex7]; rfl) (by decide) rfl (fun ls hl => ?_)
            refine lv_goto (tgt := 97) hx hb dX9_init_134 (by decide) ?_
            obtain ⟨rfl, rfl⟩ := leaf h
            exact hP0_97 rfl _ _ _ hP hS (lv_sub hl [2, 3, 1, 0] rfl)
      · obtain ⟨x10, x11, μ12⟩ := q9
        intro H locs ls hP hS hl
        have hP : fP w μ12 H := hP
        have hl : lv_has ls 4 [(0, .ref (w.2.2.1 v0)), (1, .int v1), (2, .int x10)] := hl
        try dsimp only at h
        refine lv_aload_n hx hb dX9_init_137 rfl (lv_at hl 0 rfl) ?_
        refine r_getF (off := 1) C hP hi0 hk0 fl_X9_21 rfl rfl hz1 dX9_init_138 ?_
        refine lv_iload_n hx hb dX9_init_141 rfl (lv_at hl 1 rfl) ?_
        refine lv_iload_n hx hb dX9_init_142 rfl (lv_at hl 2 rfl) ?_
        obtain ⟨g14, h⟩ := gd_ok h
        refine r_iast C hP hS hi1 (ff_9_3 hk0).1 g14 dX9_init_143 (fun H locs hP hS => ?_)
        obtain ⟨μ13, eμ13, h⟩ := vl_ex h
        have hP : fP w μ13 H := by rw [eμ13]; exact hP
        obtain ⟨x15, ex15⟩ : ∃ y : Int32, y = (v1 + (1 : Int32)) := ⟨_, rfl⟩
        replace h := vl_ok ex15 h
        refine lv_iinc (v := x15) (lv' := [(1, .int x15), (0, .ref (w.2.2.1 v0)), (2, .int x10)]) hx hb dX9_init_144 hl (k := 1) rfl (by rw [ex15]; rfl) (by decide) rfl (fun ls hl => ?_)
        refine lv_goto (tgt := 81) hx hb dX9_init_147 (by decide) ?_
        obtain ⟨rfl, rfl⟩ := leaf h
        exact hP0_81 rfl _ _ _ hP hS (lv_sub hl [1, 0] rfl)
  · obtain ⟨x19, μ20⟩ := q18
    intro H locs ls hP hS hl
    have hP : fP w μ20 H := hP
    have hl : lv_has ls 4 [] := hl
    try dsimp only at h
    have e9 := congrArg Prod.snd (Option.some.inj h)
    exact K _ _ _ (by have e8 := e9; dsimp only at e8; rw [← e8]; exact hP) hS (lv_sub hl [] rfl)

theorem range_foldl_succ {α : Type} (g : α → Nat → α) (a : α) (i : Nat) : (List.range (i + 1)).foldl g a = g ((List.range i).foldl g a) i := by
  rw [List.range_succ, List.foldl_append]
  rfl
theorem tail_spec (v0 : Nat) (μ : fMem) : f_X9_tail v0 μ = some ((), sRow μ (v0 + 1) (fun j => if j < 20 then lwT j else μ.1 (v0 + 1) j)) := by
  have inner : ∀ (w : Nat) (ν : fMem), w < 20 → ∃ t s', lpn (fun (q : Int32 × Int32 × fMem) => f_X9_init_L97 v0 (nI w) q.1 q.2.1 q.2.2) fuel ((0 : Int32), nI (6 * w), ν) = some (t, s') ∧ s'.1 = lwT w ∧ s'.2.2 = ν := by
    intro w ν hw
    refine lpF (fun i (s : Int32 × Int32 × fMem) => s.1 = (List.range i).foldl (fun a k => a * 32 + (((wordsB 0).getD (6 * w + k) 0 &&& 255) &&& 31)) 0 ∧ s.2.1 = nI (6 * w + i) ∧ s.2.2 = ν) (fun _ (s : Int32 × Int32 × fMem) => s.1 = lwT w ∧ s.2.2 = ν) 6 (by decide) ⟨rfl, rfl, rfl⟩ (fun i s hi h => Or.inl ?_) (fun s h => ?_)
    · obtain ⟨h1, h2, h3⟩ := h
      refine ⟨((List.range (i + 1)).foldl (fun a k => a * 32 + (((wordsB 0).getD (6 * w + k) 0 &&& 255) &&& 31)) 0, nI (6 * w + (i + 1)), ν), ?_, rfl, rfl, rfl⟩
      unfold f_X9_init_L97
      have e0 : (nI w + 1) * 6 = nI (6 * (w + 1)) := by
        rw [nI_1, show (6 : Int32) = nI 6 from rfl, pk_mul, Nat.mul_comm]
      have c1 : (nI (6 * w + i)).toNatClampNeg = 6 * w + i := nI_clamp (by omega)
      have x1 : ixo (nI (6 * w + i)) (lenW 0) := ixN (show 6 * w + i < 120 by omega) (by decide)
      have n1 : ¬ nI (6 * (w + 1)) ≤ nI (6 * w + i) := nI_ge (by omega) (by omega)
      have n2 : ¬ Int32.ofNat (lenW 0) ≤ nI (6 * w + i) := nI_ge (b := 120) (by omega) (by decide)
      rw [nI_1] at e0
      simp only [h1, h2, h3, nI_1, e0, if_neg n1, if_neg n2, gd_t x1, vl, wch0, c1, range_foldl_succ]
      rfl
    · obtain ⟨h1, h2, h3⟩ := h
      refine ⟨0, s, ?_, by rw [h1]; rfl, h3⟩
      unfold f_X9_init_L97
      have e0 : (nI w + 1) * 6 = nI (6 * (w + 1)) := by
        rw [nI_1, show (6 : Int32) = nI 6 from rfl, pk_mul, Nat.mul_comm]
      rw [h2, e0, if_pos (nI_le (by omega) (by omega)), ← h2]
  have key : ∃ t s', lpn (fun (q : Int32 × fMem) => f_X9_init_L81 v0 q.1 q.2) fuel ((0 : Int32), μ) = some (t, s') ∧ s'.2 = sRow μ (v0 + 1) (fun j => if j < 20 then lwT j else μ.1 (v0 + 1) j) := by
    refine lpF (fun i (s : Int32 × fMem) => s.1 = nI i ∧ s.2 = sRow μ (v0 + 1) (fun j => if j < i then lwT j else μ.1 (v0 + 1) j)) (fun _ (s : Int32 × fMem) => s.2 = sRow μ (v0 + 1) (fun j => if j < 20 then lwT j else μ.1 (v0 + 1) j)) 20 (by decide) ⟨rfl, ?_⟩ (fun i s hi h => Or.inl ?_) (fun s h => ?_)
    · show μ = _
      unfold sRow
      refine Prod.ext ?_ rfl
      funext k
      by_cases h : k = v0 + 1
      · subst h; simp
      · simp [h]
    · obtain ⟨h1, h2⟩ := h
      refine ⟨(nI (i + 1), sRow μ (v0 + 1) (fun j => if j < i + 1 then lwT j else μ.1 (v0 + 1) j)), ?_, rfl, rfl⟩
      obtain ⟨t, s', e, g1, g2⟩ := inner i s.2 hi
      have c1 : (nI i).toNatClampNeg = i := nI_clamp (by omega)
      have x1 : ixo (nI i) 20 := ixN hi (by decide)
      have n1 : ¬ (20 : Int32) ≤ nI i := nI_ge (b := 20) hi (by decide)
      have m1 : nI i * 6 = nI (6 * i) := by rw [show (6 : Int32) = nI 6 from rfl, pk_mul, Nat.mul_comm]
      rw [h2] at e g2
      simp only [f_X9_init_L81, h1, h2, if_neg n1, vl, m1, e, bd_some, gd_t x1, c1, nI_1, g1, g2]
      refine congrArg (fun q => some (0, (nI (i + 1), q))) ?_
      unfold sI sRow
      refine Prod.ext ?_ rfl
      funext k j
      by_cases hka : k = v0 + 1
      · subst hka
        by_cases hj : j = i
        · subst hj; simp [fu]
        · have : j < i + 1 ↔ j < i := by omega
          simp [fu, hj, this]
      · simp [fu, hka]
    · obtain ⟨h1, h2⟩ := h
      refine ⟨0, s, ?_, h2⟩
      unfold f_X9_init_L81
      rw [h1, if_pos (show (20 : Int32) ≤ nI 20 by decide), ← h1]
  obtain ⟨t, s', e, h⟩ := key
  unfold f_X9_tail
  rw [e, bd_some, h]
theorem fP_lt {w : fW} {lo n : Nat} {z : Nat → Nat → Bool} {μ : fMem} {H : Heap} (h : fP (wz w lo n z) μ H) {k : Nat} (h1 : lo ≤ k) (h2 : k < n) : w.2.2.1 k < H.size := (fP_iff.mp h k ⟨h1, h2⟩).lt
theorem va_S.up {A B : Nat → Prop} {H0 H : Heap} {locs : List Loc} (h : va_S A H0 H locs) (hAB : ∀ q, A q → B q) : va_S B H0 H locs := ⟨h.1, fun q h1 h2 => h.2.1 q h1 (fun z => h2 (hAB q z)), fun l hl => hAB _ (h.2.2 l hl)⟩
/-- writing 0 over 0 -/
theorem sI_same {μ : fMem} {k j : Nat} {v : Int32} (h : μ.1 k j = v) : sI μ k j v = μ := by
  unfold sI
  refine Prod.ext ?_ rfl
  funext k' j'
  unfold fu
  by_cases h1 : k' = k
  · subst h1
    by_cases h2 : j' = j
    · subst h2; simp [h]
    · simp [h2]
  · simp [h1]
/-- begins() on a memory that is all 0 there -/
theorem begins_zero (μ : fMem) (h0 : μ.1 183 = fun _ => 0) (h1 : μ.1 203 = fun _ => 0) (h2 : μ.1 204 = fun _ => 0) (h3 : μ.1 205 = fun _ => 0) (h4 : μ.1 206 = fun _ => 0) (h5 : μ.1 207 = fun _ => 0) (h6 : μ.1 208 = fun _ => 0) (h7 : μ.1 209 = fun _ => 0) (h8 : μ.1 210 = fun _ => 0) : f_X11_begins 181 μ = some ((), μ) := by
  have k1 : ∃ t s', lpn (fun (q : Int32 × fMem) => f_X11_starts_L28 181 0 q.1 q.2) fuel ((0 : Int32), μ) = some (t, s') ∧ s'.2 = μ := by
    refine lpF (fun i (s : Int32 × fMem) => s.1 = nI i ∧ s.2 = μ) (fun _ (s : Int32 × fMem) => s.2 = μ) 8 (by decide) ⟨rfl, rfl⟩ (fun i s hi h => Or.inl ⟨(nI (i + 1), μ), ?_, rfl, rfl⟩) (fun s h => ⟨0, s, ?_, h.2⟩)
    · obtain ⟨g1, g2⟩ := h
      have c1 : (nI i).toNatClampNeg = i := nI_clamp (by omega)
      have x1 : ixo (nI i) 184 := ixN (by omega) (by decide)
      have n1 : ¬ (8 : Int32) ≤ nI i := nI_ge (b := 8) hi (by decide)
      have m1 : (8 : Int32) * 0 + nI i = nI i := by rw [show (8 : Int32) * 0 = 0 from rfl, Int32.zero_add]
      have p1 : μ.1 (181 + 2) 2 ≤ nI i := by rw [show (181 + 2 : Nat) = 183 from rfl, h0]; exact nI_pos' (by omega)
      have s1 : sI μ (181 + 25) i 0 = μ := sI_same (by rw [show (181 + 25 : Nat) = 206 from rfl, h4])
      have s2 : sI μ (181 + 26) i 0 = μ := sI_same (by rw [show (181 + 26 : Nat) = 207 from rfl, h5])
      have s3 : sI μ (181 + 27) i 0 = μ := sI_same (by rw [show (181 + 27 : Nat) = 208 from rfl, h6])
      simp only [f_X11_starts_L28, f_X11_starts_j64, vl, g1, g2, if_neg n1, if_pos p1, m1, gd_t x1, c1, s1, s2, s3, nI_1]
    · unfold f_X11_starts_L28
      rw [h.1, if_pos (show (8 : Int32) ≤ nI 8 by decide), ← h.1]
  have k2 : ∃ t s', lpn (fun (q : Int32 × fMem) => f_X11_starts_L97 181 0 q.1 q.2) fuel ((0 : Int32), μ) = some (t, s') ∧ s'.2 = μ := by
    refine lpF (fun i (s : Int32 × fMem) => s.1 = nI i ∧ s.2 = μ) (fun _ (s : Int32 × fMem) => s.2 = μ) 6 (by decide) ⟨rfl, rfl⟩ (fun i s hi h => Or.inl ⟨(nI (i + 1), μ), ?_, rfl, rfl⟩) (fun s h => ⟨0, s, ?_, h.2⟩)
    · obtain ⟨g1, g2⟩ := h
      have c1 : (nI i).toNatClampNeg = i := nI_clamp (by omega)
      have x1 : ixo (nI i) 138 := ixN (by omega) (by decide)
      have n1 : ¬ (6 : Int32) ≤ nI i := nI_ge (b := 6) hi (by decide)
      have m1 : (6 : Int32) * 0 + nI i = nI i := by rw [show (6 : Int32) * 0 = 0 from rfl, Int32.zero_add]
      have s1 : sI μ (181 + 28) i 0 = μ := sI_same (by rw [show (181 + 28 : Nat) = 209 from rfl, h7])
      have s2 : sI μ (181 + 29) i 0 = μ := sI_same (by rw [show (181 + 29 : Nat) = 210 from rfl, h8])
      simp only [f_X11_starts_L97, vl, g1, g2, if_neg n1, m1, gd_t x1, c1, s1, s2, nI_1]
    · unfold f_X11_starts_L97
      rw [h.1, if_pos (show (6 : Int32) ≤ nI 6 by decide), ← h.1]
  obtain ⟨t1, s1, e1, g1⟩ := k1
  obtain ⟨t2, s2, e2, g2⟩ := k2
  have c1 : (0 : Int32).toNatClampNeg = 0 := by decide
  have x1 : ixo 0 23 := by decide
  have s1 : sI μ (181 + 22) 0 0 = μ := sI_same (by rw [show (181 + 22 : Nat) = 203 from rfl, h1])
  have s2 : sI μ (181 + 23) 0 (μ.1 (181 + 2) 5) = μ := sI_same (by rw [show (181 + 23 : Nat) = 204 from rfl, show (181 + 2 : Nat) = 183 from rfl, h2, h0])
  have s3 : sI μ (181 + 24) 0 0 = μ := sI_same (by rw [show (181 + 24 : Nat) = 205 from rfl, h3])
  simp only [f_X11_begins, f_X11_starts, vl, gd_t x1, c1, s1, s2, s3, e1, bd_some, g1, e2, g2]
