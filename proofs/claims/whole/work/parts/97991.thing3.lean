/-! thing: what its exceptions stand on -/
def xIO : String := "java/lang/IndexOutOfBoundsException"
def xNS : String := "java/util/NoSuchElementException"
def xNm : List String := ["java/lang/RuntimeException", "java/lang/Exception"]
def xW0 : List Cond := Cond.classLink RX10 125 xIO :: Cond.initialized xIO :: vx_atS RX10 129 xIO xNm
def xW1 : List Cond := Cond.classLink RX10 147 xNS :: Cond.initialized xNS :: vx_atX RX10 151 xNS 13 prog_30_method_4_code xNm
theorem xo0 : ∀ w ∈ xW0, vx_ot w = true := by decide +kernel
theorem xo1 : ∀ w ∈ xW1, vx_ot w = true := by decide +kernel
theorem xm0 : ∀ w ∈ xW0, w ∈ lw_tbl := by decide +kernel
theorem xm1 : ∀ w ∈ xW1, w ∈ lw_tbl := by decide +kernel
def xqw (w : Cond) : Bool := goodWord w || match w with
  | .castable _ _ => true
  | .declares _ => true
  | _ => false
theorem xk0 : ∀ w ∈ xW0, (w.onTables && xqw w) = true := by decide +kernel
theorem xk1 : ∀ w ∈ xW1, (w.onTables && xqw w) = true := by decide +kernel
theorem xqw_warm {w : Cond} {s U : State} (hq : xqw w = true) (hW : s.WarmedH U.vm) (h : va_Nw w s) : va_Nw w U := by
  by_cases g : goodWord w = true
  · exact word_at hW (good_of_word g) h
  · unfold xqw at hq
    rw [Bool.or_eq_true] at hq
    rcases hq with hq | hq
    · exact absurd hq g
    · cases w with
      | castable a b => exact va_Nw.warmC hW h
      | declares a => exact va_Nw.warmD hW h
      | _ => cases hq
def fX (w : fW) (U : State) (H : Heap) : Prop := vx_Zq Bundle.tN "UNASSIGNED_STACK" Bundle.steD (fG w) U H ∧ vx_Zq Bundle.tN "SUPPRESSED_SENTINEL" Bundle.listD (fG w) U H ∧ (∃ a, vk_R RX10 127 "no such thing" a U) ∧ (∃ a, vk_R RX10 149 "no such what" a U) ∧ va_Nc xNS xIO U ∧ (∀ x ∈ xW0, va_Nw x U) ∧ ∀ x ∈ xW1, va_Nw x U
theorem fX.warm {w : fW} {s U : State} {H H1 : Heap} (h : fX w s H) (hW : s.WarmedH U.vm) (hq : ∀ a : Nat, a < H.size → ¬ fG w a → H1[a]? = H[a]?) : fX w U H1 := by
  obtain ⟨h1, h2, ⟨a3, h3⟩, ⟨a4, h4⟩, h5, h6, h7⟩ := h
  refine ⟨(vx_Zq.moved hW.alike h1).kept hq, (vx_Zq.moved hW.alike h2).kept hq, ⟨a3, vk_R.warm hW h3⟩, ⟨a4, vk_R.warm hW h4⟩, va_Nc.moved hW.alike h5, fun x hx => xqw_warm ?_ hW (h6 x hx), fun x hx => xqw_warm ?_ hW (h7 x hx)⟩
  · have := xk0 x hx
    rw [Bool.and_eq_true] at this
    exact this.2
  · have := xk1 x hx
    rw [Bool.and_eq_true] at this
    exact this.2
theorem fX.same {w : fW} {s U : State} {H : Heap} (h : fX w s H) (hv : U.vm = s.vm) : fX w U H := h.warm (by rw [hv]; exact State.WarmedH.refl s) (fun _ _ _ => rfl)
theorem fX.use0 {w : fW} {U : State} {H : Heap} (h : fX w U H) {A : Array Value} : ∀ x ∈ xW0, x.before A U = true := fun x hx => by
  have := xk0 x hx
  rw [Bool.and_eq_true] at this
  exact va_Nw.use this.1 (h.2.2.2.2.2.1 x hx)
theorem fX.use1 {w : fW} {U : State} {H : Heap} (h : fX w U H) {A : Array Value} : ∀ x ∈ xW1, x.before A U = true := fun x hx => by
  have := xk1 x hx
  rw [Bool.and_eq_true] at this
  exact va_Nw.use this.1 (h.2.2.2.2.2.2 x hx)
def tPc (w : fW) (As : List Value) (μ : fMem) : Array Value → State → Prop := va_Pc As (fun U => fP w μ U.heap ∧ fK w U ∧ fT w U U.heap ∧ fX w U U.heap)
theorem tPc_blind {w : fW} {As : List Value} {μ : fMem} : FrameBlind (tPc w As μ) := by
  intro a U g mk h
  obtain ⟨h1, h2, h3, h4, h5⟩ := h
  exact ⟨h1, h2, va_K.moved (u := U) (U := U.calling g mk a) (Vm.Alike.refl U.vm) h3, fT.same h4 rfl, fX.same h5 rfl⟩
def tQ (w : fW) (k : Nat) (r : Int32) (μ : fMem) : Array Value → State → Outcome → State → Prop := va_Qi (fun (r' : Int32) (_ : Unit) => k = 0 ∧ r' = r) (fun _ t => fB w μ t) (fA w)
def tX (w : fW) (k : Nat) (μ : fMem) : String → State → State → Prop := vx_X (fun (_ : Unit) => True) (fun E _ t => ((k = 1 ∧ E = xIO) ∨ (k = 2 ∧ E = xNS)) ∧ fB w μ t) (fA w)
section TX3
variable {p : Program} {l : Launch} {e : Env} {R : Room} {s : State} {m : MethodId} {args : Array Value} {below : List Frame} {meth : Method} {c : Code} {H H0 : Heap} {locs : List Loc} {cells slots : Nat} {Q : State → Prop} {cc : ByteArray} {nL pc : Nat} {own : String} {w : fW} {μ μ' : fMem} {ls : Array Slot} {rest : List Value} {y : MethodName} {cy : ByteArray} {mL : Nat} {ret : Option FieldType} {rm : Room} {As : List Value} {Qc : Array Value → State → Outcome → State → Prop} {XC : String → State → State → Prop} {mc ms : Nat}
theorem w_widen {g : JFrame} {k n : Nat} (h1 : cells ≤ k) (h2 : slots ≤ n) (kk : W p l e R s m args below meth c H locs k n Q g) : W p l e R s m args below meth c H locs cells slots Q g := fun T hT X => kk T hT (stand_widen X h1 h2)
theorem xmet_of (hJ : fJ w) (hy : plainName y.cls = true)
    (body : ∀ (p : Program) (e : Env) (s : State) (m : MethodId) (below : List Frame) (meth : Method) (c : Code) (ls : Array Slot), Cx p s m As.toArray meth c cy mL y.cls w → meth.sig.returnType = ret → fP w μ s.heap → fX w s s.heap → (∀ x ∈ c.exceptionTable.toList, False) → lv_has ls mL (lv_args 0 As) → va_S (fA w) s.heap s.heap [] →
      W p l e rm s m As.toArray below meth c s.heap [] 0 0 (vx_MQ below Qc XC As.toArray s mc ms (fA w)) (F0 m 0 ls [])) (hlen : (lg_sl As).length ≤ mL) : vx_Met l y (.code y cy mL ret :: gw) rm (tPc w As μ) Qc XC mc ms (fA w) := by
  refine vx_ofW (cc := cy) (maxL := mL) (ret := ret) hy rfl ?_
  intro p e s m args below meth c s₁ B hml hnt hv
  obtain ⟨rfl, hP, hK, hT, hX⟩ := hv
  have hts := atoms_spec (ws := Cond.code y cy mL ret :: gw) B.pre
  have hl := lv_entry As (n := mL) hlen
  rw [lg_entry_eq]
  exact body p e s m below meth c _ ⟨B.exec, B.bytes, hml, findClass_of_methodNamed B.named, fun x hx => hts x (List.mem_cons_of_mem _ hx), hK, hJ, B.notSynchronized, hT⟩ B.returns hP hX hnt hl va_S.rf
theorem t_iret (C : Cx p s m args meth c cc nL own w) (hr : meth.sig.returnType = some .int) {v r : Int32} {k : Nat} (hP : fP w μ H) (hS : va_S (fA w) s.heap H locs) (hF : some ((0, v), μ) = some ((k, r), μ')) (hd : decode cc pc = .ok (.ireturn, 1)) : W p l e R s m args below meth c H locs 0 0 (vx_MQ below (tQ w k r μ') (tX w k μ') args s 1 6 (fA w)) (F0 m pc ls [.int v]) := by
  obtain ⟨hx, hb, -, hown, hts, hK, -, hlk, -⟩ := C
  cases hF
  exact w_widen (k := 1) (n := 6) (Nat.zero_le _) (Nat.zero_le _) (vx_ret (W.iret hx hb hr (fun t ht hW => ⟨⟨v, (), rfl, ⟨rfl, rfl⟩, by rw [ht]; exact hP, va_K.moved hW.alike hK⟩, hS.F ht⟩) hS.2.2 hd hlk))
theorem t_post (hJ : fJ w) {k : Nat} {E : String} (hK : fK w s) (hP : fP w μ H) (hS : va_S (fA w) s.heap H locs) (hE : (k = 1 ∧ E = xIO) ∨ (k = 2 ∧ E = xNS)) : ∀ t : State, s.vm.Alike t.vm → H.size ≤ t.heap.size → (∀ q : Nat, q < H.size → t.heap[q]? = H[q]?) → tX w k μ E s t := by
  intro t ha hz hq
  have hP' : fP (wz w w.2.2.2.1 w.2.2.2.2.1 w.2.2.2.2.2) μ H := hP
  refine ⟨(), trivial, ⟨hE, fP_kept hP' (fun k h1 h2 => hq _ (fP_lt hP' h1 h2)), va_K.moved ha hK⟩, Nat.le_trans hS.1 hz, fun q h1 h2 => (hq q (Nat.lt_of_lt_of_le h1 hS.1)).trans (hS.2.1 q h1 h2)⟩
end TX3
