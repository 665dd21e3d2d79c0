/-! thing, as the law calls it -/
theorem gwm {x : Cond} (h : x ∈ lw_tbl) (g : goodWord x = true) : x ∈ gw := List.mem_filter.mpr ⟨h, g⟩
section TX5
variable {p : Program} {l : Launch} {e : Env} {R : Room} {s : State} {m : MethodId} {args : Array Value} {below : List Frame} {meth : Method} {c : Code} {H H0 : Heap} {locs : List Loc} {cells slots : Nat} {cc : ByteArray} {nL pc : Nat} {own : String} {w : fW} {μ : fMem} {ls : Array Slot} {rest st0 : List Value} {lv : List (Nat × Value)} {y : MethodName} {cy : ByteArray} {mL n : Nat} {ret : Option FieldType} {rm : Room} {As : List Value} {Qc : Array Value → State → Outcome → State → Prop} {XC : String → State → State → Prop} {mc ms : Nat}
theorem callVx_run (C : Cx p s m args meth c cc nL own w) (hl : lv_has ls nL lv) (hP : fP w μ H) (hX : fX w s s.heap) (hS : ∀ a : Nat, a < s.heap.size → ¬ fG w a → H[a]? = s.heap[a]?) {idx ci k : Nat} (hk : inW w.2.2.2 k) (hkd : kd k = (4, ci)) (hM : vx_Met l y (.code y cy mL ret :: gw) rm (tPc w (.ref (w.2.2.1 k) :: As) μ) Qc XC mc ms (fA w)) (hm : MV own idx ci y cy mL ret n) (hR : rm.cells = mc ∧ rm.slots = ms ∧ rm.frames + 1 ≤ R.frames ∧ 8 + (mL + 11) + rm.locals ≤ R.locals) (hn : As.length = n) (hst : st0 = As.reverse ++ .ref (w.2.2.1 k) :: rest) (hc : (rest.map fun v => v.category).sum ≤ 8) (hz : cells + mc ≤ R.cells ∧ slots + ms ≤ R.slots) (hd : decode cc pc = .ok (.invokevirtual idx, 3)) :
    vx_Run p l e R s m args below meth c H locs cells slots mc ms (F0 m pc ls st0) rest (Qc (Value.ref (w.2.2.1 k) :: As).toArray) XC (fA w) := by
  obtain ⟨hx, hb, hml, hown, hts, hK, hJ, -, hT⟩ := C
  obtain ⟨m1, m2, m3, m4, m4b, ⟨q, hq, hq1⟩, m5, m6, m7⟩ := hm
  have hg := fcs_get (μ := μ) hk
  rw [cellE_4 hkd] at hg
  have hrec := va_recv hK hP hq hg
  rw [hq1] at hrec
  exact vx_runV (As := As) (rest := rest) (C := y.cls) ⟨hx, hb, hml, hown, hts⟩ hM ⟨callB_of n hts (goodY (x := Cond.code y cy mL ret) m2) rfl hR.1 hR.2.1 (hts _ m3) (hts _ m1) ⟨m5, m6, m7⟩ hR.2.2, hts _ m4, hts _ m4b⟩ ⟨tPc_blind, hrec, fun U hU hW => ⟨rfl, by rw [hU]; exact hP, va_K.moved hW.alike hK, by rw [hU]; exact hT.warm hW hS, by rw [hU]; exact hX.warm hW hS⟩⟩ rfl hn hl.1 hst (lv_room hc) hd hz
end TX5
def LtA (w : fW) : Nat → Prop := fun q => fA (wC w) q ∨ q = w.2.2.1 221
def LtPc (w : fW) (a b : Int32) (μ : fMem) : Array Value → State → Prop := va_Pc [.ref (w.2.2.1 0), .int a, .int b, .ref (w.2.2.1 221)] (fun U => fP (wC w) μ U.heap ∧ LO w U.heap ∧ fK (wC w) U ∧ fT (wC w) U U.heap ∧ fX (wC w) U U.heap)
theorem LtPc_blind {w : fW} {a b : Int32} {μ : fMem} : FrameBlind (LtPc w a b μ) := by
  intro x U g mk h
  obtain ⟨h1, h2, h3, h4, h5, h6⟩ := h
  exact ⟨h1, h2, h3, va_K.moved (u := U) (U := U.calling g mk x) (Vm.Alike.refl U.vm) h4, fT.same h5 rfl, fX.same h6 rfl⟩
def LtB (w : fW) (k : Nat) (r : Int32) (μ : fMem) (t : State) : Prop := fP (wC w) μ t.heap ∧ ∃ f : Nat → Int64, t.heap[w.2.2.1 221]? = some (vp_cell (w.2.1 2) (1, .inr (.inl f))) ∧ (k = 0 → f 0 = r.toInt64)
def LtQ (w : fW) (k : Nat) (r : Int32) (μ : fMem) : Array Value → State → Outcome → State → Prop := va_Qi (fun (r' : Int32) (_ : Unit) => r' = nI k) (fun _ t => LtB w k r μ t) (LtA w)
def LtX : String → State → State → Prop := vx_X (fun (_ : Unit) => False) (fun _ _ _ => True) (fun _ => False)
def hhT : List (Nat × Nat × Nat × Nat) := [(0, 10, 13, 13), (0, 10, 17, 15)]
theorem cd_L_thing : Cond.codeWith yL_thing cL_thing 5 (some .int) hhT ∈ gw := gwm (by decide +kernel) rfl
theorem mv_L_7 : MV RL 7 10 yX10_thing cX10_thing 3 (some .int) 2 := ⟨gwm (by decide +kernel) rfl, cd_X10_thing, gwm (by decide +kernel) rfl, gwm (by decide +kernel) rfl, gwm (by decide +kernel) rfl, ⟨_, rfl, rfl⟩, by decide, by decide, by decide +kernel⟩
theorem cl_L_13 : Cond.classLink RL 13 xIO ∈ gw := gwm (by decide +kernel) rfl
theorem cl_L_15 : Cond.classLink RL 15 xNS ∈ gw := gwm (by decide +kernel) rfl
theorem xc0 : Cond.castable xIO xIO ∈ xW0 := by decide +kernel
theorem xc1 : Cond.castable xNS xNS ∈ xW1 := by decide +kernel
def rm_L_thing : Room := { frames := 8, cells := 1, slots := 6, locals := 140 }
set_option maxHeartbeats 4000000 in
set_option maxRecDepth 100000 in
theorem m_L_thing (l : Launch) (hl0 : l.stackTraces = false) (w : fW) (hAD : fAD w) (a b : Int32) (μ : fMem) {k : Nat} {r : Int32} {μr : fMem} (h : f_X10_thing 0 a b μ = some ((k, r), μr)) : vx_Met l yL_thing (.codeWith yL_thing cL_thing 5 (some .int) hhT :: gw) rm_L_thing (LtPc w a b μ) (LtQ w k r μr) LtX 1 6 (LtA w) := by
  have hJ : fJ (wC w) := hAD.J (by decide)
  have n221 : ¬ fA (wC w) (w.2.2.1 221) := fun q => by
    have := fA_C hAD q
    rw [hAD 221 (by omega)] at this
    omega
  refine vx_ofWH (cc := cL_thing) (maxL := 5) (ret := some .int) (hh := hhT) (by decide) rfl ?_
  intro p e s m args below meth c s₁ B hml hv
  obtain ⟨rfl, hP, ⟨f, hf⟩, hK, hT, hX⟩ := hv
  have hts := atoms_spec (ws := Cond.codeWith yL_thing cL_thing 5 (some .int) hhT :: gw) B.pre
  have htab := vx_table (x := yL_thing) B (hts _ List.mem_cons_self)
  have hr := B.returns
  have hlk := B.notSynchronized
  have C : Cx p s m ([Value.ref (w.2.2.1 0), .int a, .int b, .ref (w.2.2.1 221)] : List Value).toArray meth c cL_thing 5 RL (wC w) := ⟨B.exec, B.bytes, hml, findClass_of_methodNamed B.named, fun x hx => hts x (List.mem_cons_of_mem _ hx), hK, hJ, B.notSynchronized, hT⟩
  have body : ∀ ls : Array Slot, lv_has ls 5 [(0, .ref (w.2.2.1 0)), (1, .int a), (2, .int b), (3, .ref (w.2.2.1 221))] → W p l e rm_L_thing s m ([Value.ref (w.2.2.1 0), .int a, .int b, .ref (w.2.2.1 221)] : List Value).toArray below meth c s.heap [] 0 0 (vx_MQ below (LtQ w k r μr) LtX ([Value.ref (w.2.2.1 0), .int a, .int b, .ref (w.2.2.1 221)] : List Value).toArray s 1 6 (LtA w)) (F0 m 0 ls []) := by
    intro ls hl
    generalize ([Value.ref (w.2.2.1 0), .int a, .int b, .ref (w.2.2.1 221)] : List Value).toArray = args at C ⊢
    obtain ⟨hx, hb, -, hown, hts, -, -, -, -⟩ := id C
    refine lv_aload_n hx hb dL_thing_0 rfl (lv_at hl 3 rfl) ?_
    refine lv_iconst (v := 0) hx hb dL_thing_1 (by decide) ?_
    refine lv_aload_n hx hb dL_thing_2 rfl (lv_at hl 0 rfl) ?_
    refine lv_iload_n hx hb dL_thing_3 rfl (lv_at hl 1 rfl) ?_
    refine lv_iload_n hx hb dL_thing_4 rfl (lv_at hl 2 rfl) ?_
    have hS : va_S (LtA w) s.heap s.heap [] := va_S.rf
    refine vx_calli (callVx_run (w := wC w) (k := 0) (As := [.int a, .int b]) (rest := [.int 0, .ref (w.2.2.1 221)]) C hl hP hX (fun q _ _ => rfl) ⟨show 0 ≤ 0 by decide, show 0 < 181 by decide⟩ (by decide +kernel) (m_X10_thing l hl0 (wC w) hJ rfl 0 a b (by decide +kernel) μ h) mv_L_7 ⟨rfl, rfl, by decide, by decide⟩ rfl rfl (Nat.le_of_ble_eq_true rfl) ⟨by decide, by decide⟩ dL_thing_5) hS (fun q _ z => Or.inl z) (fun q z => Or.inl z) (fun q _ z => Or.inl z) ?_ ?_
    · intro E ce q9 u t H1 locs1 ht _ _ hBX hz hk hS1 hce hcv hcl
      obtain ⟨hE, hB1, hB2⟩ := hBX
      have hf1 : H1[w.2.2.1 221]? = some (vp_cell (w.2.1 2) (1, .inr (.inl f))) := (hk _ (Array.getElem?_eq_some_iff.mp hf).1 n221).trans hf
      have hP1 : fP (wC w) μr H1 := by rw [← ht]; exact hB1
      rcases hE with ⟨rfl, rfl⟩ | ⟨rfl, rfl⟩
      · refine vx_catch (own := RL) (name := xIO) hown [] ⟨0, 10, 13, 13⟩ [⟨0, 10, 17, 15⟩] (htab.trans rfl) (fun z hz => nomatch hz) (by decide) (by decide) (hts _ cl_L_13) (hX.use0 _ xc0) hce hcv hcl ?_
        refine lv_astore (lv' := [(4, .ref q9), (0, .ref (w.2.2.1 0)), (1, .int a), (2, .int b), (3, .ref (w.2.2.1 221))]) hx hb dL_thing_13 hl (by decide) rfl (fun ls hl => ?_)
        refine lv_iconst (v := 1) hx hb dL_thing_15 (by decide) ?_
        exact vx_ret (W.iret hx hb hr (fun t ht hW => ⟨⟨1, (), rfl, rfl, by rw [ht]; exact hP1, f, by rw [ht]; exact hf1, fun z => by cases z⟩, hS1.F ht⟩) hS1.2.2 dL_thing_16 hlk)
      · refine vx_catch (own := RL) (name := xNS) hown [⟨0, 10, 13, 13⟩] ⟨0, 10, 17, 15⟩ [] (htab.trans rfl) (fun z hz => ?_) (by decide) (by decide) (hts _ cl_L_15) (hX.use1 _ xc1) hce hcv hcl ?_
        · have ez := List.mem_singleton.mp hz
          rw [ez]
          exact Or.inr ⟨by decide, xIO, hts _ cl_L_13, hX.2.2.2.2.1⟩
        refine lv_astore (lv' := [(4, .ref q9), (0, .ref (w.2.2.1 0)), (1, .int a), (2, .int b), (3, .ref (w.2.2.1 221))]) hx hb dL_thing_17 hl (by decide) rfl (fun ls hl => ?_)
        refine lv_iconst (v := 2) hx hb dL_thing_19 (by decide) ?_
        exact vx_ret (W.iret hx hb hr (fun t ht hW => ⟨⟨2, (), rfl, rfl, by rw [ht]; exact hP1, f, by rw [ht]; exact hf1, fun z => by cases z⟩, hS1.F ht⟩) hS1.2.2 dL_thing_20 hlk)
    · intro r' u t H1 locs1 ht _ hp hB hz hk hS1
      obtain ⟨rfl, rfl⟩ := hp
      have hf1 : H1[w.2.2.1 221]? = some (vp_cell (w.2.1 2) (1, .inr (.inl f))) := (hk _ (Array.getElem?_eq_some_iff.mp hf).1 n221).trans hf
      have hP1 : fP (wC w) μr H1 := by rw [← ht]; exact hB.1
      refine lv_i2l hx hb dL_thing_8 rfl ?_
      refine W.last hx hb hf1 ((hK.2 2 _ rfl).1 1 (fun j => .long (f j))) (fun q => by cases q) (by show ¬ ((0 : Int32) < 0 ∨ (arrV _ _ _).slots.size ≤ _); rw [arrV_size]; exact (show ¬ ((0 : Int32) < 0 ∨ 1 ≤ (0 : Int32).toNatClampNeg) by decide)) rfl rfl dL_thing_9 fun H2 e2 z2 o2 => ?_
      have hf2 : H2[w.2.2.1 221]? = some (vp_cell (w.2.1 2) (1, .inr (.inl (vp_updL f 0 r'.toInt64)))) := by
        rw [e2]
        rw [vp_cell_l, vp_cell_l, arrV_store]
        congr 2
        funext q
        by_cases hq : q = 0
        · subst hq
          simp [updV, vp_updL]
        · simp [updV, vp_updL, hq]
      have hS2 := hS1.put (k := (0 : Int32).toNatClampNeg) z2 o2 (show LtA w (w.2.2.1 221) from Or.inr rfl)
      have hP2 : fP (wC w) μr H2 := fP_kept hP1 (fun k h1 h2 => o2 _ (fun z => n221 ⟨k, ⟨h1, h2⟩, z.symm⟩))
      refine lv_goto (tgt := 21) hx hb dL_thing_10 rfl ?_
      refine lv_iconst (v := 0) hx hb dL_thing_21 (by decide) ?_
      exact vx_ret (W.iret hx hb hr (fun t ht hW => ⟨⟨0, (), rfl, rfl, by rw [ht]; exact hP2, _, by rw [ht]; exact hf2, fun _ => by simp [vp_updL]⟩, hS2.F ht⟩) hS2.2.2 dL_thing_22 hlk)
  have hl := lv_entry [Value.ref (w.2.2.1 0), .int a, .int b, .ref (w.2.2.1 221)] (n := 5) (Nat.le_of_ble_eq_true rfl)
  rw [lg_entry_eq]
  exact body _ hl
