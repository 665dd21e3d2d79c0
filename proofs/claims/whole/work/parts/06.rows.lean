/-! rows over the flat memory: arrays, calls, ends -/
def sRow (μ : fMem) (k : Nat) (f : Nat → Int32) : fMem := ((fun k' => if k' = k then f else μ.1 k'), μ.2)
/-- what a call of a method stands on -/
def MS (own : String) (idx : Nat) (y : MethodName) (cy : ByteArray) (mL : Nat) (ret : Option FieldType) (n : Nat) : Prop :=
  Cond.methodLink own idx y ∈ gw ∧ Cond.code y cy mL ret ∈ gw ∧ Cond.initialized y.cls ∈ gw ∧ Cond.static y ∈ gw ∧ y.cls ≠ "java/lang/invoke/MethodHandle" ∧ y.cls ≠ "java/lang/invoke/VarHandle" ∧ (parseMethodDescriptor y.desc).map (fun d => d.parameters.length) = some n
def MV (own : String) (idx ci : Nat) (y : MethodName) (cy : ByteArray) (mL : Nat) (ret : Option FieldType) (n : Nat) : Prop :=
  Cond.methodLink own idx y ∈ gw ∧ Cond.code y cy mL ret ∈ gw ∧ Cond.initialized y.cls ∈ gw ∧ Cond.instanceMethod y ∈ gw ∧ Cond.selects y.cls y y ∈ gw ∧ (∃ q : vw_C, vwCl[ci]? = some q ∧ q.1 = y.cls) ∧ y.cls ≠ "java/lang/invoke/MethodHandle" ∧ y.cls ≠ "java/lang/invoke/VarHandle" ∧ (parseMethodDescriptor y.desc).map (fun d => d.parameters.length) = some n
def fPc (w : fW) (As : List Value) (μ : fMem) : Array Value → State → Prop := va_Pc As (fun U => fP w μ U.heap ∧ fK w U ∧ fT w U U.heap)
def fB (w : fW) (μ : fMem) (t : State) : Prop := fP w μ t.heap ∧ fK w t
def fQi (w : fW) (r : Int32) (μ : fMem) : Array Value → State → Outcome → State → Prop := va_Qi (fun (r' : Int32) (_ : Unit) => r' = r) (fun _ t => fB w μ t) (fA w)
def fQl (w : fW) (r : Int64) (μ : fMem) : Array Value → State → Outcome → State → Prop := va_Ql (fun (r' : Int64) (_ : Unit) => r' = r) (fun _ t => fB w μ t) (fA w)
def fQv (w : fW) (μ : fMem) : Array Value → State → Outcome → State → Prop := va_Qv (fun (_ : Unit) => True) (fun _ t => fB w μ t) (fA w)
def fQr (w : fW) (r : Nat) (μ : fMem) : Array Value → State → Outcome → State → Prop := va_Qr (fun (_ : Unit) => True) (fun _ a t => a = w.2.2.1 r ∧ fB w μ t) (fA w)
theorem fPc_blind {w : fW} {As : List Value} {μ : fMem} : FrameBlind (fPc w As μ) := by
  intro a U g mk h
  obtain ⟨h1, h2, h3, h4⟩ := h
  exact ⟨h1, h2, va_K.moved (u := U) (U := U.calling g mk a) (Vm.Alike.refl U.vm) h3, fT.same h4 rfl⟩
section Rows2
variable {p : Program} {l : Launch} {e : Env} {R : Room} {s : State} {m : MethodId} {args : Array Value} {below : List Frame} {meth : Method} {c : Code} {H H0 : Heap} {locs : List Loc} {cells slots : Nat} {Q : State → Prop} {cc : ByteArray} {nL pc : Nat} {own : String} {w : fW} {μ μ' : fMem} {ls : Array Slot} {rest : List Value} {lv : List (Nat × Value)}
theorem r_alen (C : Cx p s m args meth c cc nL own w) (hP : fP w μ H) {k n : Nat} (hk : inW w.2.2.2 k) (hkd : kd k = (0, n) ∨ kd k = (1, n) ∨ kd k = (2, n) ∨ kd k = (3, n)) {v : Int32} (hv : Int32.ofNat n = v) (hd : decode cc pc = .ok (.arraylength, 1))
    (kk : W p l e R s m args below meth c H locs cells slots Q (F0 m (pc + 1) ls (.int v :: rest))) : W p l e R s m args below meth c H locs cells slots Q (F0 m pc ls (.ref (w.2.2.1 k) :: rest)) := by
  obtain ⟨hx, hb, -, hown, hts, hK, -, -⟩ := C
  have hg := fcs_get (μ := μ) hk
  rcases hkd with h | h | h | h
  · rw [cellE_0 h] at hg; exact va_alen hx hb hK hP _ 0 hg rfl hv hd kk
  · rw [cellE_1 h] at hg; exact va_alen hx hb hK hP _ 1 hg rfl hv hd kk
  · rw [cellE_2 h] at hg; exact va_alen hx hb hK hP _ 2 hg rfl hv hd kk
  · rw [cellE_3 h] at hg; exact va_alen hx hb hK hP _ 3 hg rfl hv hd kk
theorem r_iald (C : Cx p s m args meth c cc nL own w) (hP : fP w μ H) {k n : Nat} {i : Int32} (hk : inW w.2.2.2 k) (hkd : kd k = (0, n)) (hi : ixo i n) (hd : decode cc pc = .ok (.iaload, 1))
    (kk : W p l e R s m args below meth c H locs cells slots Q (F0 m (pc + 1) ls (.int (μ.1 k i.toNatClampNeg) :: rest))) : W p l e R s m args below meth c H locs cells slots Q (F0 m pc ls (.int i :: .ref (w.2.2.1 k) :: rest)) := by
  obtain ⟨hx, hb, -, hown, hts, hK, -, -⟩ := C
  have hg := fcs_get (μ := μ) hk
  rw [cellE_0 hkd] at hg
  exact va_iald hx hb hK hP _ 0 hg rfl hi hd kk
theorem r_zald (C : Cx p s m args meth c cc nL own w) (hP : fP w μ H) {k n : Nat} {i : Int32} (hk : inW w.2.2.2 k) (hkd : kd k = (1, n)) (hi : ixo i n) (hd : decode cc pc = .ok (.baload, 1))
    (kk : W p l e R s m args below meth c H locs cells slots Q (F0 m (pc + 1) ls (.int (μ.1 k i.toNatClampNeg) :: rest))) : W p l e R s m args below meth c H locs cells slots Q (F0 m pc ls (.int i :: .ref (w.2.2.1 k) :: rest)) := by
  obtain ⟨hx, hb, -, hown, hts, hK, -, -⟩ := C
  have hg := fcs_get (μ := μ) hk
  rw [cellE_1 hkd] at hg
  exact va_zald hx hb hK hP _ 1 hg rfl hi hd kk
theorem r_lald (C : Cx p s m args meth c cc nL own w) (hP : fP w μ H) {k n : Nat} {i : Int32} (hk : inW w.2.2.2 k) (hkd : kd k = (2, n)) (hi : ixo i n) (hd : decode cc pc = .ok (.laload, 1))
    (kk : W p l e R s m args below meth c H locs cells slots Q (F0 m (pc + 1) ls (.long (μ.2.1 k i.toNatClampNeg) :: rest))) : W p l e R s m args below meth c H locs cells slots Q (F0 m pc ls (.int i :: .ref (w.2.2.1 k) :: rest)) := by
  obtain ⟨hx, hb, -, hown, hts, hK, -, -⟩ := C
  have hg := fcs_get (μ := μ) hk
  rw [cellE_2 hkd] at hg
  exact va_lald hx hb hK hP _ 2 hg rfl hi hd kk
theorem r_aald (C : Cx p s m args meth c cc nL own w) (hP : fP w μ H) {k n : Nat} {i : Int32} (hk : inW w.2.2.2 k) (hkd : kd k = (3, n)) (hi : ixo i n) (hd : decode cc pc = .ok (.aaload, 1))
    (kk : W p l e R s m args below meth c H locs cells slots Q (F0 m (pc + 1) ls (.ref (w.2.2.1 (k + 1 + i.toNatClampNeg)) :: rest))) : W p l e R s m args below meth c H locs cells slots Q (F0 m pc ls (.int i :: .ref (w.2.2.1 k) :: rest)) := by
  obtain ⟨hx, hb, -, hown, hts, hK, -, -⟩ := C
  have hg := fcs_get (μ := μ) hk
  rw [cellE_3 hkd] at hg
  have hlt : i.toNatClampNeg < n := Nat.not_le.mp fun q => hi (Or.inr q)
  exact W.aald (v := .ref (w.2.2.1 (k + 1 + i.toNatClampNeg))) (ty := .array .int) hx hb (hP _ _ hg) ((hK.2 3 _ rfl).1 n (fun j => va_rf (some (w.2.2.1 (k + 1 + j))))) rfl (fun q => by cases q) (by show ¬ (i < 0 ∨ (arrV _ _ _).slots.size ≤ _); rw [arrV_size]; exact hi) (by show (arrV _ _ _).slots[_]? = _; rw [arrV_read _ _ hlt]; rfl) rfl rfl hd kk
theorem fcs_setI {w : fW} {μ : fMem} {k n j : Nat} {v : Int32} {a : Nat} (ha : a < 2) (hk : inW w.2.2.2 k) (hkd : kd k = (a, n)) : (fcs w μ).set (k - w.2.2.2.1) (w.2.2.1 k, .inl (w.2.1 a, n, .inl (upd (μ.1 k) j v))) = fcs w (sI μ k j v) := by
  have e : (.inl (w.2.1 a, n, .inl (upd (μ.1 k) j v)) : va_E) = cellE w.2.2.1 w.2.1 w.2.2.2.2.2 (sI μ k j v) k := by
    have e2 : upd (μ.1 k) j v = (sI μ k j v).1 k := by
      funext j'
      simp [sI, fu, upd]
    rw [e2]
    rcases (show a = 0 ∨ a = 1 by omega) with rfl | rfl
    · rw [cellE_0 hkd]
    · rw [cellE_1 hkd]
  rw [e]
  exact fcs_set hk (fun i hi => cellE_of (fu_row hi).symm rfl rfl)
theorem fcs_setL {w : fW} {μ : fMem} {k n j : Nat} {v : Int64} (hk : inW w.2.2.2 k) (hkd : kd k = (2, n)) : (fcs w μ).set (k - w.2.2.2.1) (w.2.2.1 k, .inl (w.2.1 2, n, .inr (.inl (vp_updL (μ.2.1 k) j v)))) = fcs w (sL μ k j v) := by
  have e : (.inl (w.2.1 2, n, .inr (.inl (vp_updL (μ.2.1 k) j v))) : va_E) = cellE w.2.2.1 w.2.1 w.2.2.2.2.2 (sL μ k j v) k := by
    have e2 : vp_updL (μ.2.1 k) j v = (sL μ k j v).2.1 k := by
      funext j'
      simp [sL, fu, vp_updL]
    rw [e2, cellE_2 hkd]
  rw [e]
  exact fcs_set hk (fun i hi => cellE_of rfl (fu_row hi).symm rfl)
theorem fcs_setF {w : fW} {μ : fMem} {k n : Nat} {f : Nat → Int32} (hk : inW w.2.2.2 k) (hkd : kd k = (0, n)) : (fcs w μ).set (k - w.2.2.2.1) (w.2.2.1 k, .inl (w.2.1 0, n, .inl f)) = fcs w (sRow μ k f) := by
  have e : (.inl (w.2.1 0, n, .inl f) : va_E) = cellE w.2.2.1 w.2.1 w.2.2.2.2.2 (sRow μ k f) k := by
    rw [cellE_0 hkd]
    simp [sRow]
  rw [e]
  exact fcs_set hk (fun i hi => cellE_of (by simp [sRow, hi]) rfl rfl)
theorem r_iast (C : Cx p s m args meth c cc nL own w) (hP : fP w μ H) (hS : va_S (fA w) H0 H locs) {k n : Nat} {i v : Int32} (hk : inW w.2.2.2 k) (hkd : kd k = (0, n)) (hi : ixo i n) (hd : decode cc pc = .ok (.iastore, 1))
    (kk : ∀ (H1 : Heap) (locs1 : List Loc), fP w (sI μ k i.toNatClampNeg v) H1 → va_S (fA w) H0 H1 locs1 → W p l e R s m args below meth c H1 locs1 cells slots Q (F0 m (pc + 1) ls rest)) : W p l e R s m args below meth c H locs cells slots Q (F0 m pc ls (.int v :: .int i :: .ref (w.2.2.1 k) :: rest)) := by
  obtain ⟨hx, hb, -, hown, hts, hK, hJ, -⟩ := C
  have hg := fcs_get (μ := μ) hk
  rw [cellE_0 hkd] at hg
  refine va_iast hx hb hK hP (fcs_D hJ μ) hS _ 0 hg rfl hi hd (fun H1 locs1 q1 _ q3 => kk H1 locs1 ?_ q3)
  unfold fP
  rw [← fcs_setI (a := 0) (by decide) hk hkd]
  exact q1
theorem r_zast (C : Cx p s m args meth c cc nL own w) (hP : fP w μ H) (hS : va_S (fA w) H0 H locs) {k n : Nat} {i v : Int32} (hk : inW w.2.2.2 k) (hkd : kd k = (1, n)) (hi : ixo i n) (hv : bl v) (hd : decode cc pc = .ok (.bastore, 1))
    (kk : ∀ (H1 : Heap) (locs1 : List Loc), fP w (sI μ k i.toNatClampNeg v) H1 → va_S (fA w) H0 H1 locs1 → W p l e R s m args below meth c H1 locs1 cells slots Q (F0 m (pc + 1) ls rest)) : W p l e R s m args below meth c H locs cells slots Q (F0 m pc ls (.int v :: .int i :: .ref (w.2.2.1 k) :: rest)) := by
  obtain ⟨hx, hb, -, hown, hts, hK, hJ, -⟩ := C
  have hg := fcs_get (μ := μ) hk
  rw [cellE_1 hkd] at hg
  refine va_zast hx hb hK hP (fcs_D hJ μ) hS _ 1 hg rfl hi hd (fun H1 locs1 q1 _ q3 => kk H1 locs1 ?_ q3)
  have e : vp_nar .boolean v = v := by rcases hv with rfl | rfl <;> rfl
  rw [e] at q1
  unfold fP
  rw [← fcs_setI (a := 1) (by decide) hk hkd]
  exact q1
theorem r_last (C : Cx p s m args meth c cc nL own w) (hP : fP w μ H) (hS : va_S (fA w) H0 H locs) {k n : Nat} {i : Int32} {v : Int64} (hk : inW w.2.2.2 k) (hkd : kd k = (2, n)) (hi : ixo i n) (hd : decode cc pc = .ok (.lastore, 1))
    (kk : ∀ (H1 : Heap) (locs1 : List Loc), fP w (sL μ k i.toNatClampNeg v) H1 → va_S (fA w) H0 H1 locs1 → W p l e R s m args below meth c H1 locs1 cells slots Q (F0 m (pc + 1) ls rest)) : W p l e R s m args below meth c H locs cells slots Q (F0 m pc ls (.long v :: .int i :: .ref (w.2.2.1 k) :: rest)) := by
  obtain ⟨hx, hb, -, hown, hts, hK, hJ, -⟩ := C
  have hg := fcs_get (μ := μ) hk
  rw [cellE_2 hkd] at hg
  refine va_last hx hb hK hP (fcs_D hJ μ) hS _ 2 hg rfl hi hd (fun H1 locs1 q1 _ q3 => kk H1 locs1 ?_ q3)
  unfold fP
  rw [← fcs_setL hk hkd]
  exact q1
abbrev cpo (sp dp n : Int32) (n0 n1 : Nat) : Prop := (¬ sp < 0 ∧ ¬ dp < 0 ∧ ¬ n < 0) ∧ sp.toNatClampNeg + n.toNatClampNeg ≤ n0 ∧ dp.toNatClampNeg + n.toNatClampNeg ≤ n1
def cpy (μ : fMem) (k0 : Nat) (sp : Int32) (k1 : Nat) (dp n : Int32) : fMem := sRow μ k1 (va_cpy (μ.1 k0) (μ.1 k1) sp.toNatClampNeg dp.toNatClampNeg n.toNatClampNeg)
theorem r_copy (C : Cx p s m args meth c cc nL own w) (hl : lv_has ls nL lv) (hP : fP w μ H) (hS : va_S (fA w) H0 H locs) {idx : Nat} (hm : Cond.methodLink own idx arraycopyName ∈ gw) (ho : Cond.native arraycopyName ∈ gw ∧ Cond.static arraycopyName ∈ gw ∧ Cond.initialized "java/lang/System" ∈ gw) {k0 k1 n0 n1 : Nat} {sp dp n : Int32} (hk0 : inW w.2.2.2 k0) (hd0 : kd k0 = (0, n0)) (hk1 : inW w.2.2.2 k1) (hd1 : kd k1 = (0, n1)) (h : cpo sp dp n n0 n1)
    (hframes : 1 ≤ R.frames) (hlocals : (rest.map fun v => v.category).sum + (nativeFrameWords "java/lang/System" "arraycopy" 5 + 11) ≤ R.locals) (hd : decode cc pc = .ok (.invokestatic idx, 3))
    (kk : ∀ (H1 : Heap) (locs1 : List Loc), fP w (cpy μ k0 sp k1 dp n) H1 → va_S (fA w) H0 H1 locs1 → W p l e R s m args below meth c H1 locs1 cells slots Q (F0 m (pc + 3) ls rest)) : W p l e R s m args below meth c H locs cells slots Q (F0 m pc ls (.int n :: .int dp :: .ref (w.2.2.1 k1) :: .int sp :: .ref (w.2.2.1 k0) :: rest)) := by
  obtain ⟨hx, hb, hml, hown, hts, hK, hJ, -⟩ := C
  have hg0 := fcs_get (μ := μ) hk0
  have hg1 := fcs_get (μ := μ) hk1
  rw [cellE_0 hd0] at hg0
  rw [cellE_0 hd1] at hg1
  refine va_copyi hx hb (by rw [hml]; exact hl.1.symm) hown (hts _ hm) (hts _ ho.1) (hts _ ho.2.1) (hts _ ho.2.2) hK hP (fcs_D hJ μ) hS _ _ 0 0 hg0 hg1 rfl rfl rfl h.1.1 h.1.2.1 h.1.2.2 h.2.1 h.2.2 (fun _ _ => rfl) hframes hlocals hd (fun H1 locs1 q1 _ q3 => kk H1 locs1 ?_ q3)
  unfold fP cpy
  rw [← fcs_setF hk1 hd1]
  exact q1
/-! calls -/
abbrev rmo (R rm : Room) (mL : Nat) : Prop := rm.cells = 0 ∧ rm.slots = 0 ∧ rm.frames + 1 ≤ R.frames ∧ 8 + (mL + 11) + rm.locals ≤ R.locals
theorem goodY {x y : Cond} (hy : y ∈ gw) : GoodIn gw (y :: gw) := fun z h => by
  rcases List.mem_cons.mp h with rfl | h
  · exact ⟨hy, gw_good _ hy⟩
  · exact ⟨h, gw_good _ h⟩
variable {y : MethodName} {cy : ByteArray} {mL n : Nat} {ret : Option FieldType} {rm : Room} {As st0 : List Value} {Qc : Array Value → State → Outcome → State → Prop} {ν : fMem}
theorem callS_run (C : Cx p s m args meth c cc nL own w) (hl : lv_has ls nL lv) (hP : fP w μ H) (hS : ∀ a : Nat, a < s.heap.size → ¬ fG w a → H[a]? = s.heap[a]?) {idx : Nat} (hM : Met l y (.code y cy mL ret :: gw) rm (fPc w As μ) Qc 0 0 (fA w)) (hm : MS own idx y cy mL ret n) (hR : rmo R rm mL) (hn : As.length = n) (hst : st0 = As.reverse ++ rest) (hc : (rest.map fun v => v.category).sum ≤ 8) (hz : cells ≤ R.cells ∧ slots ≤ R.slots) (hd : decode cc pc = .ok (.invokestatic idx, 3)) :
    va_Run p l e R s m args below meth c H locs cells slots 0 0 (F0 m pc ls st0) rest (Qc As.toArray) (fA w) := by
  obtain ⟨hx, hb, hml, hown, hts, hK, hJ, -, hT⟩ := C
  obtain ⟨m1, m2, m3, m4, m5, m6, m7⟩ := hm
  exact va_runS (As := As) (rest := rest) ⟨hx, hb, hml, hown, hts⟩ hM ⟨callB_of n hts (goodY (x := Cond.code y cy mL ret) m2) rfl hR.1 hR.2.1 (hts _ m3) (hts _ m1) ⟨m5, m6, m7⟩ hR.2.2, hts _ m4⟩ ⟨fPc_blind, fun U hU hW => ⟨rfl, by rw [hU]; exact hP, va_K.moved hW.alike hK, by rw [hU]; exact hT.warm hW hS⟩⟩ rfl hn hl.1 hst (lv_room hc) hd hz
theorem callV_run (C : Cx p s m args meth c cc nL own w) (hl : lv_has ls nL lv) (hP : fP w μ H) (hS : ∀ a : Nat, a < s.heap.size → ¬ fG w a → H[a]? = s.heap[a]?) {idx ci k : Nat} (hk : inW w.2.2.2 k) (hkd : kd k = (4, ci)) (hM : Met l y (.code y cy mL ret :: gw) rm (fPc w (.ref (w.2.2.1 k) :: As) μ) Qc 0 0 (fA w)) (hm : MV own idx ci y cy mL ret n) (hR : rmo R rm mL) (hn : As.length = n) (hst : st0 = As.reverse ++ .ref (w.2.2.1 k) :: rest) (hc : (rest.map fun v => v.category).sum ≤ 8) (hz : cells ≤ R.cells ∧ slots ≤ R.slots) (hd : decode cc pc = .ok (.invokevirtual idx, 3)) :
    va_Run p l e R s m args below meth c H locs cells slots 0 0 (F0 m pc ls st0) rest (Qc (Value.ref (w.2.2.1 k) :: As).toArray) (fA w) := by
  obtain ⟨hx, hb, hml, hown, hts, hK, hJ, -, hT⟩ := C
  obtain ⟨m1, m2, m3, m4, m4b, ⟨q, hq, hq1⟩, m5, m6, m7⟩ := hm
  have hg := fcs_get (μ := μ) hk
  rw [cellE_4 hkd] at hg
  have hrec := va_recv hK hP hq hg
  rw [hq1] at hrec
  exact va_runV (As := As) (rest := rest) (C := y.cls) ⟨hx, hb, hml, hown, hts⟩ hM ⟨callB_of n hts (goodY (x := Cond.code y cy mL ret) m2) rfl hR.1 hR.2.1 (hts _ m3) (hts _ m1) ⟨m5, m6, m7⟩ hR.2.2, hts _ m4, hts _ m4b⟩ ⟨fPc_blind, hrec, fun U hU hW => ⟨rfl, by rw [hU]; exact hP, va_K.moved hW.alike hK, by rw [hU]; exact hT.warm hW hS⟩⟩ rfl hn hl.1 hst (lv_room hc) hd hz
theorem go_i {a : Array Value} {r : Int32} (hr : va_Run p l e R s m args below meth c H locs cells slots 0 0 (F0 m pc ls st0) rest (fQi w r ν a) (fA w)) (hS : va_S (fA w) H0 H locs)
    (kk : ∀ (H1 : Heap) (locs1 : List Loc), fP w ν H1 → va_S (fA w) H0 H1 locs1 → W p l e R s m args below meth c H1 locs1 cells slots Q (F0 m (pc + 3) ls (.int r :: rest))) : W p l e R s m args below meth c H locs cells slots Q (F0 m pc ls st0) :=
  va_calli hr hS (fun _ _ h => h) (fun _ h => h) (fun r' u t H1 locs1 ht _ hp hB _ _ hS1 => by
    rw [hp]
    exact kk H1 locs1 (by rw [← ht]; exact hB.1) hS1)
theorem go_l {a : Array Value} {r : Int64} (hr : va_Run p l e R s m args below meth c H locs cells slots 0 0 (F0 m pc ls st0) rest (fQl w r ν a) (fA w)) (hS : va_S (fA w) H0 H locs)
    (kk : ∀ (H1 : Heap) (locs1 : List Loc), fP w ν H1 → va_S (fA w) H0 H1 locs1 → W p l e R s m args below meth c H1 locs1 cells slots Q (F0 m (pc + 3) ls (.long r :: rest))) : W p l e R s m args below meth c H locs cells slots Q (F0 m pc ls st0) :=
  va_calll hr hS (fun _ _ h => h) (fun _ h => h) (fun r' u t H1 locs1 ht _ hp hB _ _ hS1 => by
    rw [hp]
    exact kk H1 locs1 (by rw [← ht]; exact hB.1) hS1)
theorem go_v {a : Array Value} (hr : va_Run p l e R s m args below meth c H locs cells slots 0 0 (F0 m pc ls st0) rest (fQv w ν a) (fA w)) (hS : va_S (fA w) H0 H locs)
    (kk : ∀ (H1 : Heap) (locs1 : List Loc), fP w ν H1 → va_S (fA w) H0 H1 locs1 → W p l e R s m args below meth c H1 locs1 cells slots Q (F0 m (pc + 3) ls rest)) : W p l e R s m args below meth c H locs cells slots Q (F0 m pc ls st0) :=
  va_callv hr hS (fun _ _ h => h) (fun _ h => h) (fun u t H1 locs1 ht _ hp hB _ _ hS1 => kk H1 locs1 (by rw [← ht]; exact hB.1) hS1)
theorem go_r {a : Array Value} {r : Nat} (hr : va_Run p l e R s m args below meth c H locs cells slots 0 0 (F0 m pc ls st0) rest (fQr w r ν a) (fA w)) (hS : va_S (fA w) H0 H locs)
    (kk : ∀ (H1 : Heap) (locs1 : List Loc), fP w ν H1 → va_S (fA w) H0 H1 locs1 → W p l e R s m args below meth c H1 locs1 cells slots Q (F0 m (pc + 3) ls (.ref (w.2.2.1 r) :: rest))) : W p l e R s m args below meth c H locs cells slots Q (F0 m pc ls st0) :=
  va_callr hr hS (fun _ _ h => h) (fun _ h => h) (fun u ra t H1 locs1 ht _ hp hB _ _ hS1 => by
    rw [hB.1]
    exact kk H1 locs1 (by rw [← ht]; exact hB.2.1) hS1)
/-! ends -/
theorem r_iret (C : Cx p s m args meth c cc nL own w) (hr : meth.sig.returnType = some .int) {v r : Int32} (hP : fP w μ H) (hS : va_S (fA w) s.heap H locs) (hF : some (v, μ) = some (r, μ')) (hd : decode cc pc = .ok (.ireturn, 1)) : W p l e R s m args below meth c H locs cells slots (MQ below (fQi w r μ') args s cells slots (fA w)) (F0 m pc ls [.int v]) := by
  obtain ⟨hx, hb, -, hown, hts, hK, -, hlk, -⟩ := C
  obtain ⟨rfl, rfl⟩ := Prod.mk.inj (Option.some.inj hF)
  exact W.iret hx hb hr (fun t ht hW => ⟨⟨v, (), rfl, rfl, by rw [ht]; exact hP, va_K.moved hW.alike hK⟩, hS.F ht⟩) hS.2.2 hd hlk
theorem r_zret (C : Cx p s m args meth c cc nL own w) (hr : meth.sig.returnType = some .boolean) {v r : Int32} (hP : fP w μ H) (hS : va_S (fA w) s.heap H locs) (hF : gd (bl v) (some (v, μ)) = some (r, μ')) (hd : decode cc pc = .ok (.ireturn, 1)) : W p l e R s m args below meth c H locs cells slots (MQ below (fQi w r μ') args s cells slots (fA w)) (F0 m pc ls [.int v]) := by
  obtain ⟨hx, hb, -, hown, hts, hK, -, hlk, -⟩ := C
  obtain ⟨hv, hF⟩ := gd_ok hF
  obtain ⟨rfl, rfl⟩ := Prod.mk.inj (Option.some.inj hF)
  exact W.zret hx hb hr (by rcases hv with rfl | rfl <;> rfl) (fun t ht hW => ⟨⟨v, (), rfl, rfl, by rw [ht]; exact hP, va_K.moved hW.alike hK⟩, hS.F ht⟩) hS.2.2 hd hlk
theorem r_lret (C : Cx p s m args meth c cc nL own w) (hr : meth.sig.returnType = some .long) {v r : Int64} (hP : fP w μ H) (hS : va_S (fA w) s.heap H locs) (hF : some (v, μ) = some (r, μ')) (hd : decode cc pc = .ok (.lreturn, 1)) : W p l e R s m args below meth c H locs cells slots (MQ below (fQl w r μ') args s cells slots (fA w)) (F0 m pc ls [.long v]) := by
  obtain ⟨hx, hb, -, hown, hts, hK, -, hlk, -⟩ := C
  obtain ⟨rfl, rfl⟩ := Prod.mk.inj (Option.some.inj hF)
  exact W.lret hx hb hr (fun t ht hW => ⟨⟨v, (), rfl, rfl, by rw [ht]; exact hP, va_K.moved hW.alike hK⟩, hS.F ht⟩) hS.2.2 hd hlk
theorem r_vret (C : Cx p s m args meth c cc nL own w) (hr : meth.sig.returnType = none) {r : Unit} (hP : fP w μ H) (hS : va_S (fA w) s.heap H locs) (hF : some ((), μ) = some (r, μ')) (hd : decode cc pc = .ok (.return_, 1)) : W p l e R s m args below meth c H locs cells slots (MQ below (fQv w μ') args s cells slots (fA w)) (F0 m pc ls []) := by
  obtain ⟨hx, hb, -, hown, hts, hK, -, hlk, -⟩ := C
  have e : μ = μ' := congrArg Prod.snd (Option.some.inj hF)
  subst e
  exact W.vret hx hb hr (fun t ht hW => ⟨⟨(), rfl, trivial, by rw [ht]; exact hP, va_K.moved hW.alike hK⟩, hS.F ht⟩) hS.2.2 hd hlk
/-- a method's contract out of its walk -/
theorem met_of (hJ : fJ w) (hy : plainName y.cls = true)
    (body : ∀ (p : Program) (e : Env) (s : State) (m : MethodId) (below : List Frame) (meth : Method) (c : Code) (ls : Array Slot), Cx p s m As.toArray meth c cy mL y.cls w → meth.sig.returnType = ret → fP w μ s.heap → lv_has ls mL (lv_args 0 As) → va_S (fA w) s.heap s.heap [] →
      W p l e rm s m As.toArray below meth c s.heap [] 0 0 (MQ below Qc As.toArray s 0 0 (fA w)) (F0 m 0 ls [])) (hlen : (lg_sl As).length ≤ mL) : Met l y (.code y cy mL ret :: gw) rm (fPc w As μ) Qc 0 0 (fA w) := by
  refine Met.ofW (cc := cy) (maxL := mL) (ret := ret) hy rfl ?_
  intro p e s m args below meth c s₁ B hml hv
  obtain ⟨rfl, hP, hK, hT⟩ := hv
  have hts := atoms_spec (ws := Cond.code y cy mL ret :: gw) B.pre
  have hl := lv_entry As (n := mL) hlen
  rw [lg_entry_eq]
  exact body p e s m below meth c _ ⟨B.exec, B.bytes, hml, findClass_of_methodNamed B.named, fun x hx => hts x (List.mem_cons_of_mem _ hx), hK, hJ, B.notSynchronized, hT⟩ B.returns hP hl va_S.rf
end Rows2
