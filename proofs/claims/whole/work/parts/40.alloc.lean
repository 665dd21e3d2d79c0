/-! making cells: the world grows by its next cell -/
theorem kd_no {k a n : Nat} (hk : k < 221) (ha : 5 ≤ a) : ¬ kd k = (a, n) := by
  intro h
  have := (by decide +kernel : ∀ k, k < 221 → (kd k).1 < 5) k hk
  rw [h] at this
  exact absurd this (by show ¬ a < 5; omega)
def wz (w : fW) (lo n : Nat) (z : Nat → Nat → Bool) : fW := (w.1, w.2.1, w.2.2.1, (lo, n, z))
/-- the cells' addresses follow each other -/
def fAD (w : fW) : Prop := ∀ k, k ≤ 221 → w.2.2.1 k = w.2.2.1 0 + k
theorem fAD.J {w : fW} (h : fAD w) {lo n : Nat} {z : Nat → Nat → Bool} (hn : n ≤ 221) : fJ (wz w lo n z) := by
  refine ⟨fun i j hi hj e => ?_, fun k hk => ?_⟩
  · have e1 : w.2.2.1 i = w.2.2.1 0 + i := h i (by have := hi.2; show i ≤ 221; exact Nat.le_trans (Nat.le_of_lt this) hn)
    have e2 : w.2.2.1 j = w.2.2.1 0 + j := h j (by have := hj.2; exact Nat.le_trans (Nat.le_of_lt this) hn)
    have e3 : w.2.2.1 i = w.2.2.1 j := e
    omega
  · have e1 : w.2.2.1 k = w.2.2.1 0 + k := h k (by have := hk.2; exact Nat.le_trans (Nat.le_of_lt this) hn)
    show w.2.2.1 0 ≤ w.2.2.1 k
    omega
theorem fP_iff {w : fW} {μ : fMem} {H : Heap} : fP w μ H ↔ ∀ k, inW w.2.2.2 k → va_at w.1 vwCl (w.2.2.1 k, cellE w.2.2.1 w.2.1 w.2.2.2.2.2 μ k) H := by
  constructor
  · intro h k hk
    exact h _ _ (fcs_get hk)
  · intro h i q hq
    unfold fcs at hq
    rw [List.getElem?_map] at hq
    rcases Nat.lt_or_ge i (w.2.2.2.2.1 - w.2.2.2.1) with hi | hi
    · rw [List.getElem?_range hi] at hq
      have e := Option.some.inj hq
      rw [← e]
      exact h _ ⟨by omega, by omega⟩
    · rw [List.getElem?_eq_none (by simpa using hi)] at hq
      cases hq
/-- cells depend on the flags of references and the rows of the memory within alone -/
theorem fP_congr {w : fW} {lo n : Nat} {z z' : Nat → Nat → Bool} {μ ν : fMem} {H : Heap} (hn : n ≤ 221) (h : fP (wz w lo n z) μ H) (hc : ∀ k, lo ≤ k → k < n → μ.1 k = ν.1 k ∧ μ.2.1 k = ν.2.1 k ∧ ∀ ci, kd k = (4, ci) → ∀ j, j < fN ci → 3 ≤ ft ci j → z k j = z' k j ∧ (4 ≤ ft ci j → μ.2.2 k j = ν.2.2 k j)) : fP (wz w lo n z') ν H := by
  rw [fP_iff] at h ⊢
  intro k hk
  obtain ⟨h1, h2, h3⟩ := hc k hk.1 hk.2
  have e : cellE w.2.2.1 w.2.1 z μ k = cellE w.2.2.1 w.2.1 z' ν k := by
    have e0 : ∀ ci, kd k = (4, ci) → flds w.2.2.1 z μ k ci = flds w.2.2.1 z' ν k ci := fun ci hci => by
      unfold flds
      refine List.map_congr_left (fun j hj => ?_)
      have hj := List.mem_range.mp hj
      unfold fval
      rw [h1, h2]
      have h4 := h3 ci hci j hj
      generalize ft ci j = t at h4 ⊢
      rcases t with _ | _ | _ | _ | t
      · rfl
      · rfl
      · rfl
      · rw [(h4 (by omega)).1]; rfl
      · have h5 := h4 (by omega)
        show (if z k j = true then _ else _) = (if z' k j = true then _ else _)
        rw [h5.1, h5.2 (by omega)]
    rcases hq : kd k with ⟨a, ci⟩
    rcases a with _ | _ | _ | _ | _ | a
    · rw [cellE_0 hq, cellE_0 hq, h1]
    · rw [cellE_1 hq, cellE_1 hq, h1]
    · rw [cellE_2 hq, cellE_2 hq, h2]
    · rw [cellE_3 hq, cellE_3 hq]
    · rw [cellE_4 hq, cellE_4 hq, e0 ci hq]
    · exact absurd hq (kd_no (Nat.lt_of_lt_of_le hk.2 hn) (by omega))
  have := h k hk
  show va_at w.1 vwCl (w.2.2.1 k, cellE w.2.2.1 w.2.1 z' ν k) H
  rw [← e]
  exact this
theorem fP_join {w : fW} {lo n e : Nat} {z : Nat → Nat → Bool} {μ : fMem} {H : Heap} (h1 : fP (wz w lo n z) μ H) (h2 : fP (wz w n e z) μ H) : fP (wz w lo e z) μ H := by
  rw [fP_iff] at h1 h2 ⊢
  intro k hk
  rcases Nat.lt_or_ge k n with h | h
  · exact h1 k ⟨hk.1, h⟩
  · exact h2 k ⟨h, hk.2⟩
theorem fP_cut {w : fW} {lo n lo' n' : Nat} {z : Nat → Nat → Bool} {μ : fMem} {H : Heap} (h : fP (wz w lo n z) μ H) (h1 : lo ≤ lo') (h2 : n' ≤ n) : fP (wz w lo' n' z) μ H := by
  rw [fP_iff] at h ⊢
  intro k hk
  have a1 : lo' ≤ k := hk.1
  have a2 : k < n' := hk.2
  exact h k ⟨Nat.le_trans h1 a1, Nat.lt_of_lt_of_le a2 h2⟩
theorem fP_kept {w : fW} {lo n : Nat} {z : Nat → Nat → Bool} {μ : fMem} {H H1 : Heap} (h : fP (wz w lo n z) μ H) (hq : ∀ k, lo ≤ k → k < n → H1[w.2.2.1 k]? = H[w.2.2.1 k]?) : fP (wz w lo n z) μ H1 := by
  rw [fP_iff] at h ⊢
  intro k hk
  exact (h k hk).kept (hq k hk.1 hk.2)
/-- private constructors of nested classes, as the tables link them -/
def nestL : List (String × Nat × MethodName × String) := [("DeadMonday", 21, yX2_init, "DeadMonday"), ("DeadMonday$House", 56, yX3_init, "DeadMonday"), ("DeadMonday", 28, yX5_init, "DeadMonday"), ("DeadMonday$Reader", 27, yX2_init, "DeadMonday"), ("DeadMonday$Course", 40, yX2_init, "DeadMonday"), ("DeadMonday", 59, yX4_init, "DeadMonday"), ("DeadMonday", 66, yX8_init, "DeadMonday"), ("DeadMonday", 73, yX1_init, "DeadMonday"), ("DeadMonday", 80, yX6_init, "DeadMonday")]
def fAO (U : State) : Prop := (Cond.arrayOver (.array .int)).before #[] U = true
theorem fAO.moved {u U : State} (hvm : u.vm.Alike U.vm) (h : fAO u) : fAO U := Jvm.Stand.arrayOver_alikeB hvm h
theorem fAO.use {U : State} {args : Array Value} (h : fAO U) : (Cond.arrayOver (.array .int)).before args U = true := h
def fNs (U : State) : Prop := (∀ q ∈ nestL, va_Nw (.methodLinkNest q.1 q.2.1 q.2.2.1 q.2.2.2) U) ∧ fAO U
theorem fNs.warm {s U : State} (h : fNs s) (hW : s.WarmedH U.vm) : fNs U := ⟨fun q hq => va_Nw.warmM hW (h.1 q hq), h.2.moved hW.alike⟩
theorem fNs.same {s U : State} (h : fNs s) (hv : s.vm = U.vm) : fNs U := ⟨fun q hq => va_Nw.same rfl hv (h.1 q hq), h.2.moved (by rw [hv]; exact Vm.Alike.refl U.vm)⟩
/-- what a constructor's walk stands on -/
def Cc (p : Program) (s : State) (m : MethodId) (args : Array Value) (meth : Method) (c : Code) (cc : ByteArray) (nL : Nat) (own : String) (w : fW) : Prop :=
  p.tables.exec = Jvm.exec ∧ c.code = cc ∧ c.maxLocals = nL ∧ s.vm.findClass own = some m.cls ∧ (∀ x ∈ gw, x.before args s = true) ∧ fK w s ∧ fAD w ∧ meth.locks = false ∧ fT w s s.heap ∧ fNs s ∧ meth.name = "<init>"
theorem Cc.x {p : Program} {s : State} {m : MethodId} {args : Array Value} {meth : Method} {c : Code} {cc : ByteArray} {nL : Nat} {own : String} {w : fW} (h : Cc p s m args meth c cc nL own w) {lo n : Nat} {z : Nat → Nat → Bool} (hn : n ≤ 221) : Cx p s m args meth c cc nL own (wz w lo n z) := by
  obtain ⟨h1, h2, h3, h4, h5, h6, h7, h8, h9, -, -⟩ := h
  exact ⟨h1, h2, h3, h4, h5, h6, h7.J hn, h8, h9⟩
/-- a class by a pool entry, for 'new' -/
def NL (own : String) (idx ci : Nat) : Prop := ∃ q : vw_C, vwCl[ci]? = some q ∧ q.2.2 = fN ci ∧ Cond.classLink own idx q.1 ∈ gw ∧ Cond.instantiable q.1 q.2.2 ∈ gw ∧ Cond.initialized q.1 ∈ gw ∧ (∀ x ∈ u_ws q.1 q.2.1 q.2.2, x ∈ gw) ∧
  ∃ ty0 : Nat → FieldType, (∀ k, k < q.2.2 → parseFieldDescriptor (q.2.1 k).2.2.1 = some (ty0 k)) ∧ ∀ j, j < q.2.2 → defaultValue (ty0 j) = match ft ci j with
    | 0 => .int 0
    | 1 => .int 0
    | 2 => .long 0
    | _ => .null
/-- a final reference field by a pool entry, for a constructor's store -/
def FF (own : String) (idx ci j : Nat) (ty : FieldType) : Prop := ∃ q : vw_C, vwCl[ci]? = some q ∧ j < q.2.2 ∧ q.2.2 = fN ci ∧ Cond.fieldLink own idx (q.2.1 j).1 (q.2.1 j).2.1 (q.2.1 j).2.2.1 ∈ gw ∧ (∀ x ∈ u_ws q.1 q.2.1 q.2.2, x ∈ gw) ∧
  (∃ ty0 : Nat → FieldType, ∀ k, k < q.2.2 → parseFieldDescriptor (q.2.1 k).2.2.1 = some (ty0 k)) ∧ (∀ a, a < q.2.2 → ∀ b, b < q.2.2 → a ≠ b → (q.2.1 a).2.1 ≠ (q.2.1 b).2.1) ∧ (q.2.1 j).2.2.2 = true ∧ (q.2.1 j).1 = own ∧ parseFieldDescriptor (q.2.1 j).2.2.1 = some ty
def zs (z : Nat → Nat → Bool) (k j : Nat) : Nat → Nat → Bool := fun k' j' => if k' = k ∧ j' = j then true else z k' j'
theorem vs_outer (c : ClassId) (N h0 : Nat) : ∀ i : Nat, Jvm.Free.Multi.outerC c N h0 i = arrV c N (fun j => va_rf (if j < i then some (h0 + 1 + j) else none))
  | 0 => by
    show ({ cls := c, slots := Array.replicate N .null, vm := .none } : Cell) = _
    rw [arrV_new]
    refine congrArg (arrV c N) (funext fun j => ?_)
    simp [va_rf]
  | i + 1 => by
    show (Jvm.Free.Multi.outerC c N h0 i).setSlot i (.ref (h0 + 1 + i)) = _
    rw [vs_outer c N h0 i, arrV_store]
    refine congrArg (arrV c N) (funext fun j => ?_)
    by_cases e : j = i
    · subst e
      simp [updV, va_rf]
    · by_cases h : j < i
      · simp [updV, e, h, Nat.lt_succ_of_lt h]
      · simp [updV, e, h, show ¬ j < i + 1 by omega]
theorem arrV_cg {c : ClassId} {N : Nat} {f g : Nat → Value} (h : ∀ j, j < N → f j = g j) : arrV c N f = arrV c N g := by
  unfold arrV
  congr 1
  congr 1
  funext j
  exact h j.1 j.2
section RowsA
variable {p : Program} {l : Launch} {e : Env} {R : Room} {s : State} {m : MethodId} {args : Array Value} {below : List Frame} {meth : Method} {c : Code} {H H0 : Heap} {locs : List Loc} {cells slots : Nat} {Q : State → Prop} {cc : ByteArray} {nL pc : Nat} {own : String} {w : fW} {μ μ' : fMem} {ls : Array Slot} {rest : List Value} {lv : List (Nat × Value)} {A : Nat → Prop} {lo n : Nat} {z : Nat → Nat → Bool}
/-- the next cell is there -/
theorem fP_next {H1 : Heap} (hP : fP (wz w lo n z) μ H) (hAD : fAD w) (hn : n < 221) (hsz : H.size = w.2.2.1 n) (hold : ∀ q, q < H.size → H1[q]? = H[q]?) (hnew : va_at w.1 vwCl (w.2.2.1 n, cellE w.2.2.1 w.2.1 z μ n) H1) : fP (wz w lo (n + 1) z) μ H1 := by
  rw [fP_iff] at hP ⊢
  intro k hk
  have h1 : lo ≤ k := hk.1
  have h2 : k < n + 1 := hk.2
  rcases Nat.lt_or_ge k n with h | h
  · refine (hP k ⟨h1, h⟩).kept (hold _ ?_)
    show w.2.2.1 k < H.size
    rw [hsz, hAD k (by omega), hAD n (by omega)]
    omega
  · have : k = n := by omega
    subst this
    exact hnew
theorem a_new (C : Cc p s m args meth c cc nL own w) (hP : fP (wz w lo n z) μ H) (hS : va_S A H0 H locs) (hsz : H.size = w.2.2.1 n) (hn : n < 221) {ci idx N : Nat} (hkd : kd n = (4, ci)) (hN : fN ci = N) (hL : NL own idx ci) (h1 : μ.1 n = fun _ => 0) (h2 : μ.2.1 n = fun _ => 0) (h3 : z n = fun _ => false) (hc : cells + 1 ≤ R.cells) (hs : slots + N ≤ R.slots) (hd : decode cc pc = .ok (.new idx, 3))
    (kk : ∀ H1 : Heap, fP (wz w lo (n + 1) z) μ H1 → va_S A H0 H1 locs → H1.size = w.2.2.1 (n + 1) → (∀ q, q < H.size → H1[q]? = H[q]?) → W p l e R s m args below meth c H1 locs (cells + 1) (slots + N) Q (F0 m (pc + 3) ls (.ref (w.2.2.1 n) :: rest))) : W p l e R s m args below meth c H locs cells slots Q (F0 m pc ls rest) := by
  obtain ⟨hx, hb, -, hown, hts, hK, hAD, -, -, -, -⟩ := C
  obtain ⟨q, hq, hqn, l1, l2, l3, hin, ty0, hty, hdef⟩ := hL
  have hKn := hK.1 ci _ hq
  refine W.newcK hx hb hown (hts _ l1) (hts _ l2) (hts _ l3) rfl hd hc (by rw [hqn, hN]; exact hs) hKn.2.1 hsz fun H1 kC hkC e1 z1 o1 => ?_
  rw [hqn, hN]
  refine kk H1 (fP_next hP hAD hn hsz (fun q hq => o1 q (by rw [← hsz]; exact hq)) ?_) ⟨Nat.le_trans hS.1 (by rw [z1, hsz]; omega), fun x g1 g2 => (o1 x (by rw [← hsz]; exact Nat.lt_of_lt_of_le g1 hS.1)).trans (hS.2.1 x g1 g2), hS.2.2⟩ (by rw [z1, hAD n (by omega), hAD (n + 1) (by omega)]; omega) (fun q hq => o1 q (by rw [← hsz]; exact hq))
  rw [cellE_4 hkd]
  refine ⟨q, hq, (u_born ty0 hts hin hKn hkC e1 hty).to (fun j hj => ?_)⟩
  rw [hdef j hj]
  have hg : (flds w.2.2.1 z μ n ci)[j]? = some (fval w.2.2.1 z μ n ci j) := flds_get (by rw [← hqn]; exact hj)
  have hv : vp_V (flds w.2.2.1 z μ n ci) j = fval w.2.2.1 z μ n ci j := by simp [vp_V, hg]
  show _ = vp_V (flds w.2.2.1 z μ n ci) j
  rw [hv]
  unfold fval
  rw [h1, h2, h3]
  generalize ft ci j = t
  rcases t with _ | _ | _ | _ | t <;> rfl
theorem a_newarr (C : Cc p s m args meth c cc nL own w) (hP : fP (wz w lo n z) μ H) (hS : va_S A H0 H locs) (hsz : H.size = w.2.2.1 n) (hn : n < 221) {a N : Nat} {len : Int32} {atype : ArrayType} (ha : (a = 0 ∧ atype = .int) ∨ (a = 1 ∧ atype = .boolean) ∨ (a = 2 ∧ atype = .long)) (hkd : kd n = (a, N)) (hN : len.toNatClampNeg = N) (hl0 : ¬ len < 0) (hb8 : N * 8 ≤ 536870912) (harr : Cond.arrayClass (newarray.typeOf atype) ∈ gw) (h1 : μ.1 n = fun _ => 0) (h2 : μ.2.1 n = fun _ => 0) (hc : cells + 1 ≤ R.cells) (hs : slots + N ≤ R.slots) (hd : decode cc pc = .ok (.newarray atype, 2))
    (kk : ∀ H1 : Heap, fP (wz w lo (n + 1) z) μ H1 → va_S A H0 H1 locs → H1.size = w.2.2.1 (n + 1) → (∀ q, q < H.size → H1[q]? = H[q]?) → W p l e R s m args below meth c H1 locs (cells + 1) (slots + N) Q (F0 m (pc + 2) ls (.ref (w.2.2.1 n) :: rest))) : W p l e R s m args below meth c H locs cells slots Q (F0 m pc ls (.int len :: rest)) := by
  obtain ⟨hx, hb, -, hown, hts, hK, hAD, -, -, -, -⟩ := C
  refine va_newaK hx hb (hts _ harr) rfl hd rfl hl0 hN (by rcases ha with ⟨-, rfl⟩ | ⟨-, rfl⟩ | ⟨-, rfl⟩ <;> simp only [newarray.typeOf, componentBytes] <;> omega) hc hs hsz fun H1 cA e1 z1 o1 hAr hNm => ?_
  refine kk H1 (fP_next hP hAD hn hsz (fun q hq => o1 q (by rw [← hsz]; exact hq)) ?_) ⟨Nat.le_trans hS.1 (by rw [z1, hsz]; omega), fun x g1 g2 => (o1 x (by rw [← hsz]; exact Nat.lt_of_lt_of_le g1 hS.1)).trans (hS.2.1 x g1 g2), hS.2.2⟩ (by rw [z1, hAD n (by omega), hAD (n + 1) (by omega)]; omega) (fun q hq => o1 q (by rw [← hsz]; exact hq))
  rcases ha with ⟨rfl, rfl⟩ | ⟨rfl, rfl⟩ | ⟨rfl, rfl⟩
  · have hc0 : cA = w.2.1 0 := Option.some.inj (hNm.symm.trans (hK.2 0 _ rfl).2)
    rw [cellE_0 hkd, ← hc0, h1]
    exact e1
  · have hc0 : cA = w.2.1 1 := Option.some.inj (hNm.symm.trans (hK.2 1 _ rfl).2)
    rw [cellE_1 hkd, ← hc0, h1]
    exact e1
  · have hc0 : cA = w.2.1 2 := Option.some.inj (hNm.symm.trans (hK.2 2 _ rfl).2)
    rw [cellE_2 hkd, ← hc0, h2]
    exact e1
/-- what a store into a field leaves -/
theorem a_left {H1 : Heap} {ν : fMem} {z' : Nat → Nat → Bool} {k ci j : Nat} {v : Value} {q : vw_C} {cell : Cell} (hP : fP (wz w lo n z) μ H) (hAD : fAD w) (hn : n ≤ 221) (hk : lo ≤ k ∧ k < n) (hkd : kd k = (4, ci)) (hq : vwCl[ci]? = some q) (hnn : q.2.2 = fN ci) (hj : j < q.2.2) (hap : ∀ x y, x < q.2.2 → y < q.2.2 → x ≠ y → (w.1.2 ci) x ≠ (w.1.2 ci) y)
    (q1 : H[w.2.2.1 k]? = some cell) (q2 : cell.cls = w.1.1 ci) (q3 : cell.vm = .none) (q4 : ∀ i, i < q.2.2 → cell.slots[w.1.2 ci i]? = some (vp_V (flds w.2.2.1 z μ k ci) i)) (e1 : H1[w.2.2.1 k]? = some (cell.setSlot (w.1.2 ci j) v)) (e3 : ∀ x, x ≠ w.2.2.1 k → H1[x]? = H[x]?)
    (h1 : ∀ k', k' ≠ k → μ.1 k' = ν.1 k' ∧ μ.2.1 k' = ν.2.1 k' ∧ μ.2.2 k' = ν.2.2 k' ∧ z k' = z' k') (hv : fval w.2.2.1 z' ν k ci j = v) (ho : ∀ i, i ≠ j → fval w.2.2.1 z μ k ci i = fval w.2.2.1 z' ν k ci i) : fP (wz w lo n z') ν H1 := by
  rw [fP_iff] at hP ⊢
  intro k' hk'
  have b1 : lo ≤ k' := hk'.1
  have b2 : k' < n := hk'.2
  by_cases hkk : k' = k
  · subst hkk
    show va_at w.1 vwCl (w.2.2.1 k', cellE w.2.2.1 w.2.1 z' ν k') H1
    rw [cellE_4 hkd]
    refine ⟨q, hq, t_OB.to (V := updV (vp_V (flds w.2.2.1 z μ k' ci)) j v) ⟨_, e1, q2, q3, t_set q4 hap hj v⟩ (fun i hi => ?_)⟩
    rw [vp_updV_set (by simp only [flds, List.length_map, List.length_range]; rw [← hnn]; exact hj), ← hv, flds_set ho]
  · obtain ⟨c1, c2, c3, c4⟩ := h1 k' hkk
    have e : cellE w.2.2.1 w.2.1 z μ k' = cellE w.2.2.1 w.2.1 z' ν k' := by
      have e0 : ∀ ci, flds w.2.2.1 z μ k' ci = flds w.2.2.1 z' ν k' ci := fun ci => by
        unfold flds
        refine List.map_congr_left (fun j _ => ?_)
        unfold fval
        rw [c1, c2, c3, c4]
      unfold cellE
      rw [c1, c2]
      split <;> first | rfl | rw [e0]
    show va_at w.1 vwCl (w.2.2.1 k', cellE w.2.2.1 w.2.1 z' ν k') H1
    rw [← e]
    refine (hP k' hk').kept (e3 _ ?_)
    show w.2.2.1 k' ≠ w.2.2.1 k
    rw [hAD k' (by omega), hAD k (by omega)]
    omega
theorem a_put (C : Cc p s m args meth c cc nL own w) (hP : fP (wz w lo n z) μ H) (hS : va_S A H0 H locs) (hA : ∀ k, lo ≤ k → k < n → A (w.2.2.1 k)) (hn : n ≤ 221) {ν : fMem} {z' : Nat → Nat → Bool} {k ci j idx : Nat} {ty : FieldType} {v : Value} (hk : lo ≤ k ∧ k < n) (hkd : kd k = (4, ci)) (hL : FP own idx ci j ty) (hvn : narrow ty v = v) (hfit : fits ty v = true)
    (h1 : ∀ k', k' ≠ k → μ.1 k' = ν.1 k' ∧ μ.2.1 k' = ν.2.1 k' ∧ μ.2.2 k' = ν.2.2 k' ∧ z k' = z' k') (hv : fval w.2.2.1 z' ν k ci j = v) (ho : ∀ i, i ≠ j → fval w.2.2.1 z μ k ci i = fval w.2.2.1 z' ν k ci i) (hd : decode cc pc = .ok (.putfield idx, 3))
    (kk : ∀ (H1 : Heap) (locs1 : List Loc), fP (wz w lo n z') ν H1 → va_S A H0 H1 locs1 → H1.size = H.size → W p l e R s m args below meth c H1 locs1 cells slots Q (F0 m (pc + 3) ls rest)) : W p l e R s m args below meth c H locs cells slots Q (F0 m pc ls (v :: .ref (w.2.2.1 k) :: rest)) := by
  obtain ⟨hx, hb, -, hown, hts, hK, hAD, -, -, -, hnm0⟩ := C
  obtain ⟨q, hq, hj, hnn, hl, hin, ⟨ty0, hty0⟩, hnm, hfin, hpd⟩ := hL
  have hap := va_apart (own := own) hts hin ty0 hty0 hnm hK hq
  have hPk := fP_iff.mp hP k hk
  have hPk : va_at w.1 vwCl (w.2.2.1 k, cellE w.2.2.1 w.2.1 z μ k) H := hPk
  rw [cellE_4 hkd] at hPk
  obtain ⟨r, g1, cell, q1, q2, q3, q4⟩ := hPk
  have hr : r = q := Option.some.inj (g1.symm.trans hq)
  subst hr
  obtain ⟨hSl, hfc, kC, hkC, hkind⟩ := hK.1 ci _ hq
  obtain ⟨cf, kf, fi, f, hi, hsl⟩ := hSl j hj
  have hlay := hts _ (hin _ (u_in_lay hj))
  unfold u_lay at hlay
  rw [if_neg (by rw [hfin]; decide)] at hlay
  have hst := (u_facts hfc hkC (u_lays hts hin hj) hi).1
  have h6 := u_store hfc hkC hkind hlay hi hpd hvn hfit
  refine W.putK hx hb (f := f) ⟨hown, hts _ hl, ⟨_, _, _, hi⟩, hst⟩ (by rw [q2]; exact h6) q1 q3 (by rw [hsl]; exact k2_hasslot (q4 j hj)) rfl rfl hd fun H' e1 e2 e3 => ?_
  rw [hsl] at e1 ⊢
  exact kk H' _ (a_left hP hAD hn hk hkd hq hnn hj hap q1 q2 q3 q4 e1 e3 h1 hv ho) (hS.put e2 e3 (hA k hk.1 hk.2)) e2
theorem a_putG (C : Cc p s m args meth c cc nL own w) (hP : fP (wz w lo n z) μ H) (hS : va_S A H0 H locs) (hA : ∀ k, lo ≤ k → k < n → A (w.2.2.1 k)) (hn : n ≤ 221) {ν : fMem} {z' : Nat → Nat → Bool} {k ci j idx : Nat} {ty : FieldType} {v : Value} (hk : lo ≤ k ∧ k < n) (hkd : kd k = (4, ci)) (hL : FF own idx ci j ty) (hvn : narrow ty v = v) (hfit : fits ty v = true)
    (h1 : ∀ k', k' ≠ k → μ.1 k' = ν.1 k' ∧ μ.2.1 k' = ν.2.1 k' ∧ μ.2.2 k' = ν.2.2 k' ∧ z k' = z' k') (hv : fval w.2.2.1 z' ν k ci j = v) (ho : ∀ i, i ≠ j → fval w.2.2.1 z μ k ci i = fval w.2.2.1 z' ν k ci i) (hd : decode cc pc = .ok (.putfield idx, 3))
    (kk : ∀ (H1 : Heap) (locs1 : List Loc), fP (wz w lo n z') ν H1 → va_S A H0 H1 locs1 → H1.size = H.size → W p l e R s m args below meth c H1 locs1 cells slots Q (F0 m (pc + 3) ls rest)) : W p l e R s m args below meth c H locs cells slots Q (F0 m pc ls (v :: .ref (w.2.2.1 k) :: rest)) := by
  obtain ⟨hx, hb, -, hown, hts, hK, hAD, -, -, -, hnm0⟩ := C
  obtain ⟨q, hq, hj, hnn, hl, hin, ⟨ty0, hty0⟩, hnm, hfin, hdecl, hpd⟩ := hL
  have hap := va_apart (own := own) hts hin ty0 hty0 hnm hK hq
  have hPk := fP_iff.mp hP k hk
  have hPk : va_at w.1 vwCl (w.2.2.1 k, cellE w.2.2.1 w.2.1 z μ k) H := hPk
  rw [cellE_4 hkd] at hPk
  obtain ⟨r, g1, cell, q1, q2, q3, q4⟩ := hPk
  have hr : r = q := Option.some.inj (g1.symm.trans hq)
  subst hr
  obtain ⟨hSl, hfc, kC, hkC, hkind⟩ := hK.1 ci _ hq
  obtain ⟨cf, kf, fi, f, hi, hsl⟩ := hSl j hj
  have hlay := hts _ (hin _ (u_in_lay hj))
  unfold u_lay at hlay
  rw [if_pos hfin] at hlay
  have hst := (u_facts hfc hkC (u_lays hts hin hj) hi).1
  have hcf : m.cls = cf := by
    obtain ⟨_, _, c', _, _, _, -, -, hf', -, -, -, hown2, -⟩ := Cond.laysFinal_spec hlay
    have e1 : c' = cf := by have := hi.symm.trans hf'; simp at this; exact this.1.symm
    rw [hdecl] at hown2
    rw [← e1]; exact Option.some.inj (hown.symm.trans hown2)
  have h6 := u_fits hfc hkC hkind (Or.inr hlay) hi hpd hvn hfit
  refine W.putFinK hx hb hown (hts _ hl) hi hst hcf hnm0 (by rw [q2]; exact h6) q1 q3 (by rw [hsl]; exact k2_hasslot (q4 j hj)) rfl rfl hd fun H' e1 e2 e3 => ?_
  rw [hsl] at e1 ⊢
  exact kk H' _ (a_left hP hAD hn hk hkd hq hnn hj hap q1 q2 q3 q4 e1 e3 h1 hv ho) (hS.put e2 e3 (hA k hk.1 hk.2)) e2
/-- new int[N][M] -/
theorem a_mna (C : Cc p s m args meth c cc nL own w) (hP : fP (wz w lo n z) μ H) (hS : va_S A H0 H locs) (hsz : H.size = w.2.2.1 n) {N M idx : Nat} (hn : n + 1 + N ≤ 221) {a b : Int32} (hkd : kd n = (3, N)) (hrow : ∀ i, i < N → kd (n + 1 + i) = (0, M)) (hN : a.toNatClampNeg = N) (hM : b.toNatClampNeg = M) (ha0 : ¬ a < 0) (hb0 : ¬ b < 0) (hN4 : N * 4 ≤ 536870912) (hM4 : M * 4 ≤ 536870912) (hlk : Cond.classLink own idx ("[" ++ (FieldType.array .int).toString) ∈ gw) (harr : Cond.arrayClass .int ∈ gw) (h1 : ∀ i, i < N → μ.1 (n + 1 + i) = fun _ => 0) (hc : cells + (1 + N) ≤ R.cells) (hs : slots + (N + N * M) ≤ R.slots) (hd : decode cc pc = .ok (.multianewarray idx 2, 4))
    (kk : ∀ H1 : Heap, fP (wz w lo (n + 1 + N) z) μ H1 → va_S A H0 H1 locs → H1.size = w.2.2.1 (n + 1 + N) → (∀ q, q < H.size → H1[q]? = H[q]?) → W p l e R s m args below meth c H1 locs (cells + 1 + N) (slots + N + N * M) Q (F0 m (pc + 4) ls (.ref (w.2.2.1 n) :: rest))) : W p l e R s m args below meth c H locs cells slots Q (F0 m pc ls (.int b :: .int a :: rest)) := by
  obtain ⟨hx, hb, -, hown, hts, hK, hAD, -, -, hNs, -⟩ := C
  subst hN
  subst hM
  intro T hT Xs
  obtain ⟨vm₁, cA, comp, -, fA', fC, hO, -, X', step⟩ := Xs.multianewarray2F hx hown (hts _ hlk) hNs.2.use (hts _ harr) (g := F0 m pc ls (.int b :: .int a :: rest)) rfl (by rw [hb]; exact hd) rfl ha0 hb0 hN4 (by simp only [componentBytes]; exact hM4) (by omega) rfl rfl hc hs
  have ec : cA = w.2.1 3 := Option.some.inj (fA'.symm.trans (hK.2 3 _ rfl).2)
  have ec2 : comp = w.2.1 0 := Option.some.inj (fC.symm.trans (hK.2 0 _ rfl).2)
  subst ec
  subst ec2
  generalize hF : Jvm.Free.Multi.fill (T.setVm vm₁) (w.2.1 3) (w.2.1 0) a.toNatClampNeg b.toNatClampNeg (defaultValue .int) a.toNatClampNeg = F at X' step
  have hTh : (T.setVm vm₁).heap = H := hT
  obtain ⟨f1, f2, -, -⟩ := Jvm.Free.Multi.fill_facts (T.setVm vm₁) (w.2.1 3) (w.2.1 0) a.toNatClampNeg b.toNatClampNeg (defaultValue .int) a.toNatClampNeg
  rw [hF, hTh] at f1 f2
  have hold : ∀ x : Nat, x < H.size → F.heap[x]? = H[x]? := fun x hx => by
    have := Jvm.Free.Multi.fill_old (T.setVm vm₁) (w.2.1 3) (w.2.1 0) a.toNatClampNeg b.toNatClampNeg (defaultValue .int) (a := x) (by rw [hTh]; exact hx) a.toNatClampNeg
    rw [hF, hTh] at this
    exact this
  have hrw : ∀ j : Nat, j < a.toNatClampNeg → F.heap[H.size + 1 + j]? = some (vp_cell (w.2.1 0) (b.toNatClampNeg, .inl (fun _ => 0))) := fun j hj => by
    have := Jvm.Free.Multi.fill_inner (T.setVm vm₁) (w.2.1 3) (w.2.1 0) a.toNatClampNeg b.toNatClampNeg (defaultValue .int) a.toNatClampNeg j hj
    rw [hF, hTh] at this
    rw [this, vp_cell_i, ← arrV_new]
    rfl
  rw [vs_outer] at f2
  have e1 : H.size = w.2.2.1 0 + n := by rw [hsz, hAD n (by omega)]
  have hPn : fP (wz w lo (n + 1 + a.toNatClampNeg) z) μ F.heap := by
    rw [fP_iff] at hP ⊢
    intro k hk
    have c1 : lo ≤ k := hk.1
    have c2 : k < n + 1 + a.toNatClampNeg := hk.2
    have ek : w.2.2.1 k = w.2.2.1 0 + k := hAD k (by omega)
    rcases Nat.lt_trichotomy k n with h | h | h
    · refine (hP k ⟨c1, h⟩).kept (hold _ ?_)
      show w.2.2.1 k < H.size
      omega
    · subst h
      show va_at w.1 vwCl (w.2.2.1 k, cellE w.2.2.1 w.2.1 z μ k) F.heap
      rw [cellE_3 hkd]
      show F.heap[w.2.2.1 k]? = some (vp_cell _ _)
      rw [← hsz, f2, vp_cell_q]
      refine congrArg some ?_
      refine arrV_cg (fun j hj => ?_)
      rw [if_pos hj]
      show va_rf (some _) = va_rf (some _)
      rw [hAD (k + 1 + j) (by omega)]
      congr 2
      omega
    · show va_at w.1 vwCl (w.2.2.1 k, cellE w.2.2.1 w.2.1 z μ k) F.heap
      have hr := hrow (k - n - 1) (by omega)
      have hz := h1 (k - n - 1) (by omega)
      rw [show n + 1 + (k - n - 1) = k by omega] at hr hz
      rw [cellE_0 hr, hz]
      show F.heap[w.2.2.1 k]? = some (vp_cell _ _)
      have := hrw (k - n - 1) (by omega)
      rw [show H.size + 1 + (k - n - 1) = w.2.2.1 k by omega] at this
      exact this
  obtain ⟨t, a1, b1⟩ := kk F.heap hPn ⟨by rw [f1]; have := hS.1; omega, fun x g1 g2 => (hold x (Nat.lt_of_lt_of_le g1 hS.1)).trans (hS.2.1 x g1 g2), hS.2.2⟩ (by rw [f1, hAD (n + 1 + a.toNatClampNeg) (by omega)]; omega) hold F rfl X'
  refine ⟨t, step t ?_, b1⟩
  have e : T.heap.size = w.2.2.1 n := by rw [hT]; exact hsz
  rw [e]
  exact a1
end RowsA
/-- from n on nothing is written -/
def Z0 (n : Nat) (M : fMem) (z : Nat → Nat → Bool) : Prop := ∀ a, n ≤ a → M.1 a = (fun _ => 0) ∧ M.2.1 a = (fun _ => 0) ∧ z a = fun _ => false
theorem Z0.mono {n n' : Nat} {M : fMem} {z : Nat → Nat → Bool} (h : Z0 n M z) (hn : n ≤ n') : Z0 n' M z := fun a ha => h a (Nat.le_trans hn ha)
theorem Z0.sI {n k j : Nat} {M : fMem} {z : Nat → Nat → Bool} {v : Int32} (h : Z0 n M z) (hk : k < n) : Z0 n (sI M k j v) z := fun a ha => ⟨by show fu M.1 k j v a = _; rw [fu_row (by omega)]; exact (h a ha).1, (h a ha).2.1, (h a ha).2.2⟩
theorem Z0.sL {n k j : Nat} {M : fMem} {z : Nat → Nat → Bool} {v : Int64} (h : Z0 n M z) (hk : k < n) : Z0 n (sL M k j v) z := fun a ha => ⟨(h a ha).1, by show fu M.2.1 k j v a = _; rw [fu_row (by omega)]; exact (h a ha).2.1, (h a ha).2.2⟩
theorem Z0.sR {n k j v : Nat} {M : fMem} {z : Nat → Nat → Bool} (h : Z0 n M z) : Z0 n (sR M k j v) z := fun a ha => ⟨(h a ha).1, (h a ha).2.1, (h a ha).2.2⟩
theorem Z0.zs {n k j : Nat} {M : fMem} {z : Nat → Nat → Bool} (h : Z0 n M z) (hk : k < n) : Z0 n M (zs z k j) := fun a ha => ⟨(h a ha).1, (h a ha).2.1, by funext j'; show (if a = k ∧ j' = j then true else z a j') = false; rw [if_neg (fun q => by omega)]; rw [(h a ha).2.2]⟩
/-! a constructor's contract: its object alone at first, its object and all that it has made then -/
def cPc (w : fW) (k : Nat) (z : Nat → Nat → Bool) (μ : fMem) : Array Value → State → Prop := va_Pc [.ref (w.2.2.1 k)] (fun U => fP (wz w k (k + 1) z) μ U.heap ∧ U.heap.size = w.2.2.1 (k + 1) ∧ fK w U ∧ fT w U U.heap ∧ fNs U)
def cQ (w : fW) (k e : Nat) (z : Nat → Nat → Bool) (ν : fMem) : Array Value → State → Outcome → State → Prop := va_Qv (fun (_ : Unit) => True) (fun _ t => fP (wz w k e z) ν t.heap ∧ t.heap.size = w.2.2.1 e ∧ fK w t) (fun q => w.2.2.1 k ≤ q)
theorem cPc_blind {w : fW} {k : Nat} {z : Nat → Nat → Bool} {μ : fMem} : FrameBlind (cPc w k z μ) := by
  intro a U g mk h
  obtain ⟨h1, h2, h3, h4, h5, h6⟩ := h
  exact ⟨h1, h2, h3, va_K.moved (u := U) (U := U.calling g mk a) (Vm.Alike.refl U.vm) h4, fT.same h5 rfl, fNs.same h6 rfl⟩
/-- a constructor by a pool entry -/
def IL (own : String) (idx : Nat) (y : MethodName) (cy : ByteArray) (mL : Nat) : Prop :=
  Cond.methodLink own idx y ∈ gw ∧ Cond.code y cy mL none ∈ gw ∧ Cond.initialized y.cls ∈ gw ∧ Cond.instanceMethod y ∈ gw ∧ y.name = "<init>" ∧ y.cls ≠ "java/lang/invoke/MethodHandle" ∧ y.cls ≠ "java/lang/invoke/VarHandle" ∧ (parseMethodDescriptor y.desc).map (fun d => d.parameters.length) = some 0
def IN (own : String) (idx : Nat) (y : MethodName) (cy : ByteArray) (mL : Nat) : Prop :=
  (own, idx, y, "DeadMonday") ∈ nestL ∧ Cond.code y cy mL none ∈ gw ∧ Cond.initialized y.cls ∈ gw ∧ Cond.instanceMethod y ∈ gw ∧ y.name = "<init>" ∧ y.cls ≠ "java/lang/invoke/MethodHandle" ∧ y.cls ≠ "java/lang/invoke/VarHandle" ∧ (parseMethodDescriptor y.desc).map (fun d => d.parameters.length) = some 0
section RowsI
variable {p : Program} {l : Launch} {e : Env} {R : Room} {s : State} {m : MethodId} {args : Array Value} {below : List Frame} {meth : Method} {c : Code} {H H0 : Heap} {locs : List Loc} {cells slots : Nat} {Q : State → Prop} {cc : ByteArray} {nL pc : Nat} {own : String} {w : fW} {μ ν : fMem} {ls : Array Slot} {rest : List Value} {lv : List (Nat × Value)} {A : Nat → Prop} {lo n : Nat} {z z' : Nat → Nat → Bool}
variable {y : MethodName} {cy : ByteArray} {mL mc ms e' : Nat} {rm : Room}
theorem a_init (C : Cc p s m args meth c cc nL own w) (hl : lv_has ls nL lv) (hP : fP (wz w lo (n + 1) z) μ H) (hlo : lo ≤ n) (hn : n < 221) (hS : va_S A s.heap H locs) (hA : ∀ q, w.2.2.1 n ≤ q → A q) (hAG : ∀ q, A q → fG w q) (hsz : H.size = w.2.2.1 (n + 1)) {idx : Nat} (hL : IL own idx y cy mL ∨ IN own idx y cy mL) (hM : Met l y (.code y cy mL none :: gw) rm (cPc w n z μ) (cQ w n e' z' ν) mc ms (fun q => w.2.2.1 n ≤ q))
    (hR : rm.cells = mc ∧ rm.slots = ms ∧ rm.frames + 1 ≤ R.frames ∧ 8 + (mL + 11) + rm.locals ≤ R.locals) (hc : (rest.map fun v => v.category).sum ≤ 8) (hz : cells + mc ≤ R.cells ∧ slots + ms ≤ R.slots) (hd : decode cc pc = .ok (.invokespecial idx, 3))
    (kk : ∀ (H1 : Heap) (locs1 : List Loc), fP (wz w n e' z') ν H1 → fP (wz w lo n z) μ H1 → va_S A s.heap H1 locs1 → H1.size = w.2.2.1 e' → W p l e R s m args below meth c H1 locs1 (cells + mc) (slots + ms) Q (F0 m (pc + 3) ls rest)) : W p l e R s m args below meth c H locs cells slots Q (F0 m pc ls (.ref (w.2.2.1 n) :: rest)) := by
  obtain ⟨hx, hb, hml, hown, hts, hK, hAD, -, hT, hNs, -⟩ := C
  have hpre : PreS s H (cPc w n z μ) (.ref (w.2.2.1 n) :: []) := ⟨cPc_blind, fun U hU hW => ⟨rfl, by rw [hU]; exact fP_cut hP hlo (Nat.le_refl _), by rw [hU]; exact hsz, va_K.moved hW.alike hK, by rw [hU]; exact hT.warm hW (fun a h1 h2 => hS.2.1 a h1 (fun q => h2 (hAG a q))), hNs.warm hW⟩⟩
  have hrun : va_Run p l e R s m args below meth c H locs cells slots mc ms (F0 m pc ls (.ref (w.2.2.1 n) :: rest)) rest (cQ w n e' z' ν (Value.ref (w.2.2.1 n) :: []).toArray) (fun q => w.2.2.1 n ≤ q) := by
    rcases hL with ⟨m1, m2, m3, m4, m5, m6, m7, m8⟩ | ⟨m1, m2, m3, m4, m5, m6, m7, m8⟩
    · exact va_runI (As := []) (rest := rest) ⟨hx, hb, hml, hown, hts⟩ hM ⟨callB_of 0 hts (goodY (x := Cond.code y cy mL none) m2) rfl hR.1 hR.2.1 (hts _ m3) (hts _ m1) ⟨m6, m7, m8⟩ hR.2.2, m5, hts _ m4⟩ hpre rfl rfl hl.1 rfl (lv_room hc) hd hz
    · exact va_runIN (As := []) (rest := rest) ⟨hx, hb, hml, hown, hts⟩ hM ⟨va_cnB 0 hts (goodY (x := Cond.code y cy mL none) m2) rfl hR.1 hR.2.1 (hNs.1 _ m1) (hts _ m3) ⟨m6, m7, m8⟩ hR.2.2, m5, hts _ m4⟩ hpre rfl rfl hl.1 rfl (lv_room hc) hd hz
  refine va_callv hrun hS (fun q _ h => hA q h) (fun q h => hA q h) (fun u t H1 locs1 ht _ hp hB hz1 hk1 hS1 => ?_)
  have hB1 : fP (wz w n e' z') ν H1 := by rw [← ht]; exact hB.1
  refine kk H1 locs1 hB1 (fP_kept (fP_cut hP (Nat.le_refl _) (Nat.le_succ n)) (fun k h1 h2 => hk1 _ ?_ ?_)) hS1 (by rw [← ht]; exact hB.2.1)
  · rw [hsz, hAD k (by omega), hAD (n + 1) (by omega)]
    omega
  · show ¬ w.2.2.1 n ≤ w.2.2.1 k
    rw [hAD k (by omega), hAD n (by omega)]
    omega
theorem a_ret (C : Cc p s m args meth c cc nL own w) (hr : meth.sig.returnType = none) (hP : fP (wz w lo n z) μ H) (hS : va_S (fun q => w.2.2.1 lo ≤ q) s.heap H locs) (hsz : H.size = w.2.2.1 n) (hd : decode cc pc = .ok (.return_, 1)) : W p l e R s m args below meth c H locs cells slots (MQ below (cQ w lo n z μ) args s cells slots (fun q => w.2.2.1 lo ≤ q)) (F0 m pc ls []) := by
  obtain ⟨hx, hb, -, hown, hts, hK, -, hlk, -, -, -⟩ := C
  exact W.vret hx hb hr (fun t ht hW => ⟨⟨(), rfl, trivial, by rw [ht]; exact hP, by rw [ht]; exact hsz, va_K.moved hW.alike hK⟩, hS.F ht⟩) hS.2.2 hd hlk
/-- a constructor's contract out of its walk -/
theorem cmet_of {k e' : Nat} {z' : Nat → Nat → Bool} (hAD : fAD w) (hy : plainName y.cls = true) (hyn : y.name = "<init>")
    (body : ∀ (p : Program) (e : Env) (s : State) (m : MethodId) (below : List Frame) (meth : Method) (c : Code) (ls : Array Slot), Cc p s m ([.ref (w.2.2.1 k)] : List Value).toArray meth c cy mL y.cls w → meth.sig.returnType = none → fP (wz w k (k + 1) z) μ s.heap → s.heap.size = w.2.2.1 (k + 1) → lv_has ls mL [(0, .ref (w.2.2.1 k))] → va_S (fun q => w.2.2.1 k ≤ q) s.heap s.heap [] →
      W p l e rm s m ([.ref (w.2.2.1 k)] : List Value).toArray below meth c s.heap [] 0 0 (MQ below (cQ w k e' z' ν) ([.ref (w.2.2.1 k)] : List Value).toArray s mc ms (fun q => w.2.2.1 k ≤ q)) (F0 m 0 ls [])) (hlen : 1 ≤ mL) : Met l y (.code y cy mL none :: gw) rm (cPc w k z μ) (cQ w k e' z' ν) mc ms (fun q => w.2.2.1 k ≤ q) := by
  refine Met.ofW (cc := cy) (maxL := mL) (ret := none) hy rfl ?_
  intro p e s m args below meth c s₁ B hml hv
  obtain ⟨rfl, hP, hsz, hK, hT, hNs⟩ := hv
  have hts := atoms_spec (ws := Cond.code y cy mL none :: gw) B.pre
  have hl := lv_entry ([.ref (w.2.2.1 k)]) (n := mL) hlen
  rw [lg_entry_eq]
  exact body p e s m below meth c _ ⟨B.exec, B.bytes, hml, findClass_of_methodNamed B.named, fun x hx => hts x (List.mem_cons_of_mem _ hx), hK, hAD, B.notSynchronized, hT, hNs, (name_of_methodNamed B.named B.method).1.trans hyn⟩ B.returns hP hsz hl va_S.rf
end RowsI
/-! a constructor's stores, by kind -/
def mg (M I : fMem) (n e : Nat) : fMem := (fun a => if n ≤ a ∧ a < e then I.1 a else M.1 a, fun a => if n ≤ a ∧ a < e then I.2.1 a else M.2.1 a, fun a => if n ≤ a ∧ a < e then I.2.2 a else M.2.2 a)
def zm (z : Nat → Nat → Bool) (n e : Nat) : Nat → Nat → Bool := fun a j => if n ≤ a ∧ a < e then true else z a j
theorem Z0.mg {n a b : Nat} {M I : fMem} {z : Nat → Nat → Bool} (h : Z0 n M z) (hb : b ≤ n) : Z0 n (mg M I a b) (zm z a b) := fun x hx => by
  have e : ¬ (a ≤ x ∧ x < b) := fun q => by omega
  refine ⟨?_, ?_, ?_⟩
  · show (if a ≤ x ∧ x < b then _ else _) = _
    rw [if_neg e]; exact (h x hx).1
  · show (if a ≤ x ∧ x < b then _ else _) = _
    rw [if_neg e]; exact (h x hx).2.1
  · funext j
    show (if a ≤ x ∧ x < b then _ else _) = _
    rw [if_neg e, (h x hx).2.2]
section RowsB
variable {p : Program} {l : Launch} {e : Env} {R : Room} {s : State} {m : MethodId} {args : Array Value} {below : List Frame} {meth : Method} {c : Code} {H H0 : Heap} {locs : List Loc} {cells slots : Nat} {Q : State → Prop} {cc : ByteArray} {nL pc : Nat} {own : String} {w : fW} {μ ν : fMem} {ls : Array Slot} {rest : List Value} {lv : List (Nat × Value)} {A : Nat → Prop} {lo n : Nat} {z z' : Nat → Nat → Bool}
theorem W_sz {g : JFrame} (k : H.size ≤ s.heap.size + cells → W p l e R s m args below meth c H locs cells slots Q g) : W p l e R s m args below meth c H locs cells slots Q g := fun T hT X => k (by rw [← hT]; exact X.heapSize) T hT X
theorem zs_row {k j k' : Nat} (h : k' ≠ k) : z k' = zs z k j k' := by
  funext j'
  show _ = if k' = k ∧ j' = j then true else z k' j'
  rw [if_neg (fun q => h q.1)]
theorem a_p3 (C : Cc p s m args meth c cc nL own w) (hP : fP (wz w lo n z) μ H) (hS : va_S A H0 H locs) (hA : ∀ k, lo ≤ k → k < n → A (w.2.2.1 k)) (hn : n ≤ 221) {k ci j idx off v : Nat} {ty : FieldType} (hk : lo ≤ k ∧ k < n) (hkd : kd k = (4, ci)) (hL : FF own idx ci j ty) (hf : ft ci j = 3) (ho : fo ci j = off) (hty : ∀ q : Nat, narrow ty (.ref q) = .ref q ∧ fits ty (.ref q) = true) (hv : v = k + off) (hd : decode cc pc = .ok (.putfield idx, 3))
    (kk : ∀ (H1 : Heap) (locs1 : List Loc), fP (wz w lo n (zs z k j)) μ H1 → va_S A H0 H1 locs1 → H1.size = H.size → W p l e R s m args below meth c H1 locs1 cells slots Q (F0 m (pc + 3) ls rest)) : W p l e R s m args below meth c H locs cells slots Q (F0 m pc ls (.ref (w.2.2.1 v) :: .ref (w.2.2.1 k) :: rest)) := by
  subst hv
  refine a_putG C hP hS hA hn (ν := μ) (z' := zs z k j) hk hkd hL (hty _).1 (hty _).2 (fun k' h => ⟨rfl, rfl, rfl, zs_row h⟩) ?_ (fun i hi => ?_) hd kk
  · unfold fval; rw [hf, ho]; simp [zs]
  · unfold fval; simp [zs, hi]
theorem a_p4 (C : Cc p s m args meth c cc nL own w) (hP : fP (wz w lo n z) μ H) (hS : va_S A H0 H locs) (hA : ∀ k, lo ≤ k → k < n → A (w.2.2.1 k)) (hn : n ≤ 221) {k ci j idx v : Nat} {cl : String} (hk : lo ≤ k ∧ k < n) (hkd : kd k = (4, ci)) (hL : FP own idx ci j (.object cl)) (hf : ft ci j = 4) (hd : decode cc pc = .ok (.putfield idx, 3))
    (kk : ∀ (H1 : Heap) (locs1 : List Loc), fP (wz w lo n (zs z k j)) (sR μ k j v) H1 → va_S A H0 H1 locs1 → H1.size = H.size → W p l e R s m args below meth c H1 locs1 cells slots Q (F0 m (pc + 3) ls rest)) : W p l e R s m args below meth c H locs cells slots Q (F0 m pc ls (.ref (w.2.2.1 v) :: .ref (w.2.2.1 k) :: rest)) := by
  refine a_put C hP hS hA hn (ν := sR μ k j v) (z' := zs z k j) hk hkd hL rfl rfl (fun k' h => ⟨rfl, rfl, (fu_row h).symm, zs_row h⟩) ?_ (fun i hi => ?_) hd kk
  · unfold fval; rw [hf]; simp [zs, sR, fu]
  · unfold fval; simp [zs, sR, fu, hi]
theorem a_p0 (C : Cc p s m args meth c cc nL own w) (hP : fP (wz w lo n z) μ H) (hS : va_S A H0 H locs) (hA : ∀ k, lo ≤ k → k < n → A (w.2.2.1 k)) (hn : n ≤ 221) {k ci j idx : Nat} {v : Int32} {ty : FieldType} (hk : lo ≤ k ∧ k < n) (hkd : kd k = (4, ci)) (hL : FP own idx ci j ty) (hf : (ft ci j = 0 ∧ ty = .int) ∨ (ft ci j = 1 ∧ ty = .boolean ∧ bl v)) (hd : decode cc pc = .ok (.putfield idx, 3))
    (kk : ∀ (H1 : Heap) (locs1 : List Loc), fP (wz w lo n z) (sI μ k j v) H1 → va_S A H0 H1 locs1 → H1.size = H.size → W p l e R s m args below meth c H1 locs1 cells slots Q (F0 m (pc + 3) ls rest)) : W p l e R s m args below meth c H locs cells slots Q (F0 m pc ls (.int v :: .ref (w.2.2.1 k) :: rest)) := by
  refine a_put C hP hS hA hn (ν := sI μ k j v) (z' := z) hk hkd hL ?_ ?_ (fun k' h => ⟨(fu_row h).symm, rfl, rfl, rfl⟩) ?_ (fun i hi => ?_) hd kk
  · rcases hf with ⟨-, rfl⟩ | ⟨-, rfl, rfl | rfl⟩ <;> rfl
  · rcases hf with ⟨-, rfl⟩ | ⟨-, rfl, rfl | rfl⟩ <;> rfl
  · unfold fval; rcases hf with ⟨h, -⟩ | ⟨h, -⟩ <;> rw [h] <;> simp [sI, fu]
  · unfold fval; simp [sI, fu, hi]
theorem a_p2 (C : Cc p s m args meth c cc nL own w) (hP : fP (wz w lo n z) μ H) (hS : va_S A H0 H locs) (hA : ∀ k, lo ≤ k → k < n → A (w.2.2.1 k)) (hn : n ≤ 221) {k ci j idx : Nat} {v : Int64} (hk : lo ≤ k ∧ k < n) (hkd : kd k = (4, ci)) (hL : FP own idx ci j .long) (hf : ft ci j = 2) (hd : decode cc pc = .ok (.putfield idx, 3))
    (kk : ∀ (H1 : Heap) (locs1 : List Loc), fP (wz w lo n z) (sL μ k j v) H1 → va_S A H0 H1 locs1 → H1.size = H.size → W p l e R s m args below meth c H1 locs1 cells slots Q (F0 m (pc + 3) ls rest)) : W p l e R s m args below meth c H locs cells slots Q (F0 m pc ls (.long v :: .ref (w.2.2.1 k) :: rest)) := by
  refine a_put C hP hS hA hn (ν := sL μ k j v) (z' := z) hk hkd hL rfl rfl (fun k' h => ⟨rfl, (fu_row h).symm, rfl, rfl⟩) ?_ (fun i hi => ?_) hd kk
  · unfold fval; rw [hf]; simp [sL, fu]
  · unfold fval; simp [sL, fu, hi]
/-- a call that makes nothing, of a void method, behind what a constructor has made by then -/
theorem a_call {a : Array Value} {st0 : List Value} (hr : va_Run p l e R s m args below meth c H locs cells slots 0 0 (F0 m pc ls st0) rest (fQv (wz w lo n z) ν a) (fA (wz w lo n z))) (hS : va_S A H0 H locs) (hA : ∀ k, lo ≤ k → k < n → A (w.2.2.1 k)) (hce : H.size = s.heap.size + cells)
    (kk : ∀ (H1 : Heap) (locs1 : List Loc), fP (wz w lo n z) ν H1 → va_S A H0 H1 locs1 → H1.size = H.size → W p l e R s m args below meth c H1 locs1 cells slots Q (F0 m (pc + 3) ls rest)) : W p l e R s m args below meth c H locs cells slots Q (F0 m pc ls st0) := by
  have hAA : ∀ q, fA (wz w lo n z) q → A q := fun q ⟨k, hk, e⟩ => by rw [e]; exact hA k hk.1 hk.2
  refine va_callv hr hS (fun q _ h => hAA q h) hAA (fun u t H1 locs1 ht _ hp hB hz _ hS1 => W_sz (fun hsz => kk H1 locs1 (by rw [← ht]; exact hB.1) hS1 ?_))
  rw [hce] at hz ⊢
  exact Nat.le_antisymm hsz hz
end RowsB
