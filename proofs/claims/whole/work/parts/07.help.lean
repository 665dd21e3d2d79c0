/-! what the printed walks use -/
def vl {β α : Type} (v : β) (k : β → Option α) : Option α := k v
theorem vl_ok {β α : Type} {x e : β} {k : β → Option α} {z : α} (hx : x = e) (h : vl e k = some z) : k x = some z := by subst hx; exact h
theorem vl_ex {β α : Type} {e : β} {k : β → Option α} {z : α} (h : vl e k = some z) : ∃ x, x = e ∧ k x = some z := ⟨e, rfl, h⟩
theorem if_t {α : Type} {c : Prop} [Decidable c] {a b z : α} (hc : c) (h : (if c then a else b) = z) : a = z := by rw [if_pos hc] at h; exact h
theorem if_f {α : Type} {c : Prop} [Decidable c] {a b z : α} (hc : ¬ c) (h : (if c then a else b) = z) : b = z := by rw [if_neg hc] at h; exact h
theorem leaf {σ : Type} {t t' : Nat} {a b : σ} (h : some (t, a) = some (t', b)) : t' = t ∧ b = a := by cases h; exact ⟨rfl, rfl⟩
theorem iw {w : fW} {b k : Nat} (hw : w.2.2.2 = sd b) (h : inS b k) : inW w.2.2.2 k := by rw [hw]; exact h
theorem zw {w : fW} {b k j : Nat} (hw : w.2.2.2 = sd b) : w.2.2.2.2.2 k j = true := by rw [hw]; rfl
theorem karr {k c n : Nat} (h : kd k = (c, n)) : kd k = (c, (kd k).2) := by rw [h]
theorem ixlt {i : Int32} {n : Nat} (h : ixo i n) : i.toNatClampNeg < n := Nat.not_le.mp fun q => h (Or.inr q)
def irm (x y : Int32) : Int32 := x - x / y * y
def lrm (x y : Int64) : Int64 := x - x / y * y
def ushr (x y : Int32) : Int32 := (x.toUInt32 >>> (y.toUInt32 &&& Int32.toUInt32 31)).toInt32
def shl (x y : Int32) : Int32 := x <<< (y &&& 31)
def shr (x y : Int32) : Int32 := x >>> (y &&& 31)
/-- how many steps a loop may take: far above what any takes -/
def fuel : Nat := 5000
section Rows3
variable {p : Program} {l : Launch} {e : Env} {R : Room} {s : State} {m : MethodId} {args : Array Value} {below : List Frame} {meth : Method} {c : Code} {H H0 : Heap} {locs : List Loc} {cells slots : Nat} {Q : State → Prop} {cc : ByteArray} {nL pc : Nat} {own : String} {w : fW} {μ μ' : fMem} {ls : Array Slot} {rest : List Value} {lv : List (Nat × Value)}
theorem r_irem (hexec : p.tables.exec = Jvm.exec) (hb : c.code = cc) {x y : Int32} (hdg : decode cc pc = .ok (.irem, 1)) (hne : ¬ y = 0)
    (k : W p l e R s m args below meth c H locs cells slots Q (F0 m (pc + 1) ls (.int (irm x y) :: rest))) : W p l e R s m args below meth c H locs cells slots Q (F0 m pc ls (.int y :: .int x :: rest)) := lv_irem hexec hb hdg hne k
theorem r_lrem (hexec : p.tables.exec = Jvm.exec) (hb : c.code = cc) {x y : Int64} (hdg : decode cc pc = .ok (.lrem, 1)) (hne : ¬ y = 0)
    (k : W p l e R s m args below meth c H locs cells slots Q (F0 m (pc + 1) ls (.long (lrm x y) :: rest))) : W p l e R s m args below meth c H locs cells slots Q (F0 m pc ls (.long y :: .long x :: rest)) := lv_lrem hexec hb hdg hne k
theorem r_iushr (hexec : p.tables.exec = Jvm.exec) (hb : c.code = cc) {x y : Int32} (hdg : decode cc pc = .ok (.iushr, 1))
    (k : W p l e R s m args below meth c H locs cells slots Q (F0 m (pc + 1) ls (.int (ushr x y) :: rest))) : W p l e R s m args below meth c H locs cells slots Q (F0 m pc ls (.int y :: .int x :: rest)) := lv_iushr hexec hb hdg rfl k
theorem r_ishl (hexec : p.tables.exec = Jvm.exec) (hb : c.code = cc) {x y : Int32} (hdg : decode cc pc = .ok (.ishl, 1))
    (k : W p l e R s m args below meth c H locs cells slots Q (F0 m (pc + 1) ls (.int (shl x y) :: rest))) : W p l e R s m args below meth c H locs cells slots Q (F0 m pc ls (.int y :: .int x :: rest)) := lv_ishl hexec hb hdg k
theorem r_ishr (hexec : p.tables.exec = Jvm.exec) (hb : c.code = cc) {x y : Int32} (hdg : decode cc pc = .ok (.ishr, 1))
    (k : W p l e R s m args below meth c H locs cells slots Q (F0 m (pc + 1) ls (.int (shr x y) :: rest))) : W p l e R s m args below meth c H locs cells slots Q (F0 m pc ls (.int y :: .int x :: rest)) := lv_ishr hexec hb hdg k
/-- array rows with the place as a number of its own -/
theorem n_iald (C : Cx p s m args meth c cc nL own w) (hP : fP w μ H) {k n j : Nat} {i : Int32} (hk : inW w.2.2.2 k) (hkd : kd k = (0, n)) (hi : ixo i n) (hj : i.toNatClampNeg = j) (hd : decode cc pc = .ok (.iaload, 1))
    (kk : W p l e R s m args below meth c H locs cells slots Q (F0 m (pc + 1) ls (.int (μ.1 k j) :: rest))) : W p l e R s m args below meth c H locs cells slots Q (F0 m pc ls (.int i :: .ref (w.2.2.1 k) :: rest)) := by subst hj; exact r_iald C hP hk hkd hi hd kk
theorem n_lald (C : Cx p s m args meth c cc nL own w) (hP : fP w μ H) {k n j : Nat} {i : Int32} (hk : inW w.2.2.2 k) (hkd : kd k = (2, n)) (hi : ixo i n) (hj : i.toNatClampNeg = j) (hd : decode cc pc = .ok (.laload, 1))
    (kk : W p l e R s m args below meth c H locs cells slots Q (F0 m (pc + 1) ls (.long (μ.2.1 k j) :: rest))) : W p l e R s m args below meth c H locs cells slots Q (F0 m pc ls (.int i :: .ref (w.2.2.1 k) :: rest)) := by subst hj; exact r_lald C hP hk hkd hi hd kk
theorem n_aald (C : Cx p s m args meth c cc nL own w) (hP : fP w μ H) {k n j : Nat} {i : Int32} (hk : inW w.2.2.2 k) (hkd : kd k = (3, n)) (hi : ixo i n) (hj : i.toNatClampNeg = j) (hd : decode cc pc = .ok (.aaload, 1))
    (kk : W p l e R s m args below meth c H locs cells slots Q (F0 m (pc + 1) ls (.ref (w.2.2.1 (k + 1 + j)) :: rest))) : W p l e R s m args below meth c H locs cells slots Q (F0 m pc ls (.int i :: .ref (w.2.2.1 k) :: rest)) := by subst hj; exact r_aald C hP hk hkd hi hd kk
theorem n_iast (C : Cx p s m args meth c cc nL own w) (hP : fP w μ H) (hS : va_S (fA w) H0 H locs) {k n j : Nat} {i v : Int32} (hk : inW w.2.2.2 k) (hkd : kd k = (0, n)) (hi : ixo i n) (hj : i.toNatClampNeg = j) (hd : decode cc pc = .ok (.iastore, 1))
    (kk : ∀ (H1 : Heap) (locs1 : List Loc), fP w (sI μ k j v) H1 → va_S (fA w) H0 H1 locs1 → W p l e R s m args below meth c H1 locs1 cells slots Q (F0 m (pc + 1) ls rest)) : W p l e R s m args below meth c H locs cells slots Q (F0 m pc ls (.int v :: .int i :: .ref (w.2.2.1 k) :: rest)) := by subst hj; exact r_iast C hP hS hk hkd hi hd kk
theorem n_last (C : Cx p s m args meth c cc nL own w) (hP : fP w μ H) (hS : va_S (fA w) H0 H locs) {k n j : Nat} {i : Int32} {v : Int64} (hk : inW w.2.2.2 k) (hkd : kd k = (2, n)) (hi : ixo i n) (hj : i.toNatClampNeg = j) (hd : decode cc pc = .ok (.lastore, 1))
    (kk : ∀ (H1 : Heap) (locs1 : List Loc), fP w (sL μ k j v) H1 → va_S (fA w) H0 H1 locs1 → W p l e R s m args below meth c H1 locs1 cells slots Q (F0 m (pc + 1) ls rest)) : W p l e R s m args below meth c H locs cells slots Q (F0 m pc ls (.long v :: .int i :: .ref (w.2.2.1 k) :: rest)) := by subst hj; exact r_last C hP hS hk hkd hi hd kk
theorem r_aret (C : Cx p s m args meth c cc nL own w) {cn : String} (hr : meth.sig.returnType = some (.object cn)) {v r : Nat} (hP : fP w μ H) (hS : va_S (fA w) s.heap H locs) (hF : some (v, μ) = some (r, μ')) (hd : decode cc pc = .ok (.areturn, 1)) : W p l e R s m args below meth c H locs cells slots (MQ below (fQr w r μ') args s cells slots (fA w)) (F0 m pc ls [.ref (w.2.2.1 v)]) := by
  obtain ⟨hx, hb, -, hown, hts, hK, -, hlk, -⟩ := C
  obtain ⟨rfl, rfl⟩ := Prod.mk.inj (Option.some.inj hF)
  exact W.aret hx hb hr (Or.inl ⟨_, rfl⟩) (Or.inr ⟨_, rfl⟩) (fun t ht hW => ⟨⟨(), _, rfl, trivial, rfl, by rw [ht]; exact hP, va_K.moved hW.alike hK⟩, hS.F ht⟩) hS.2.2 hd hlk
end Rows3
theorem rowkd {k n m : Nat} (h : kd k = (0, n)) (e : n = m) : kd k = (0, m) := by rw [h, e]
theorem tb_out (x : Int32) (lo hi : Int) (h : ∀ v : Int, lo ≤ v → v ≤ hi → ¬ x = Int32.ofInt v) : x.toInt < lo ∨ hi < x.toInt := by
  rcases Int.lt_or_le x.toInt lo with h1 | h1
  · exact Or.inl h1
  · rcases Int.lt_or_le hi x.toInt with h2 | h2
    · exact Or.inr h2
    · exact absurd (Int32.ofInt_toInt x).symm (h x.toInt h1 h2)
abbrev WW (p : Program) (l : Launch) (e : Env) (R : Room) (s : State) (m : MethodId) (args : Array Value) (below : List Frame) (meth : Method) (c : Code) (Q : State → Prop) (w : fW) (μ : fMem) (nL pc : Nat) (stk : List Value) (lv : List (Nat × Value)) : Prop :=
  ∀ (H : Heap) (locs : List Loc) (ls : Array Slot), fP w μ H → va_S (fA w) s.heap H locs → lv_has ls nL lv → W p l e R s m args below meth c H locs 0 0 Q (F0 m pc ls stk)
section Rows4
variable {p : Program} {l : Launch} {e : Env} {R : Room} {s : State} {m : MethodId} {args : Array Value} {below : List Frame} {meth : Method} {c : Code} {H H0 : Heap} {locs : List Loc} {cells slots : Nat} {Q : State → Prop} {cc : ByteArray} {nL pc : Nat} {own : String} {w : fW} {μ μ' : fMem} {ls : Array Slot} {rest : List Value} {lv : List (Nat × Value)}
theorem r_topr {x : Nat} (k : ∀ y : Nat, y = x → W p l e R s m args below meth c H locs cells slots Q (F0 m pc ls (.ref (w.2.2.1 y) :: rest))) : W p l e R s m args below meth c H locs cells slots Q (F0 m pc ls (.ref (w.2.2.1 x) :: rest)) := k x rfl
theorem r_getRx (C : Cx p s m args meth c cc nL own w) (hP : fP w μ H) {k ci j idx : Nat} (hk : inW w.2.2.2 k) (hkd : kd k = (4, ci)) (hL : FL own idx ci j) (hf : ft ci j = 4) (hz : w.2.2.2.2.2 k j = true) (hd : decode cc pc = .ok (.getfield idx, 3))
    (kk : ∀ x : Nat, x = μ.2.2 k j → W p l e R s m args below meth c H locs cells slots Q (F0 m (pc + 3) ls (.ref (w.2.2.1 x) :: rest))) : W p l e R s m args below meth c H locs cells slots Q (F0 m pc ls (.ref (w.2.2.1 k) :: rest)) := r_getR C hP hk hkd hL hf hz hd (kk _ rfl)
end Rows4
def imx (x y : Int32) : Int32 := if x < y then y else x
def imn (x y : Int32) : Int32 := if y < x then y else x
def iab (x : Int32) : Int32 := if 0 ≤ x then x else 0 - x
def lmx (x y : Int64) : Int64 := if y < x then x else y
def lmn (x y : Int64) : Int64 := if y < x then y else x
def lab (x : Int64) : Int64 := if 0 < x then x else -x
/-- a static method of Math by its name and code -/
def MM (own : String) (idx : Nat) (y : MethodName) (cy : ByteArray) (mL : Nat) (ret : Option FieldType) : Prop := Cond.methodLink own idx y ∈ gw ∧ Cond.static y ∈ gw ∧ Cond.initialized "java/lang/Math" ∈ gw ∧ Cond.code y cy mL ret ∈ gw
section Rows5
variable {p : Program} {l : Launch} {e : Env} {R : Room} {s : State} {m : MethodId} {args : Array Value} {below : List Frame} {meth : Method} {c : Code} {H H0 : Heap} {locs : List Loc} {Q : State → Prop} {cc : ByteArray} {nL pc idx : Nat} {own : String} {w : fW} {μ μ' : fMem} {ls : Array Slot} {rest : List Value} {lv : List (Nat × Value)}
theorem b_mmax (C : Cx p s m args meth c cc nL own w) (hl : lv_has ls nL lv) (hm : MM own idx Lib.Math.max.name Lib.Math.max.code 2 (some .int)) (hf : 1 ≤ R.frames) (hlo : (rest.map fun v => v.category).sum + 15 ≤ R.locals) {x y : Int32} (hd : decode cc pc = .ok (.invokestatic idx, 3))
    (kk : W p l e R s m args below meth c H locs 0 0 Q (F0 m (pc + 3) ls (.int (imx x y) :: rest))) : W p l e R s m args below meth c H locs 0 0 Q (F0 m pc ls (.int y :: .int x :: rest)) := by
  obtain ⟨hx, hb, hml, hown, hts, -⟩ := C
  exact va_mmax hx hb (by rw [hml]; exact hl.1.symm) hown (hts _ hm.1) (hts _ hm.2.1) (hts _ hm.2.2.1) (hts _ hm.2.2.2) hf (by omega) (Nat.zero_le _) (Nat.zero_le _) hd kk
theorem b_mmin (C : Cx p s m args meth c cc nL own w) (hl : lv_has ls nL lv) (hm : MM own idx Lib.Math.min.name Lib.Math.min.code 2 (some .int)) (hf : 1 ≤ R.frames) (hlo : (rest.map fun v => v.category).sum + 15 ≤ R.locals) {x y : Int32} (hd : decode cc pc = .ok (.invokestatic idx, 3))
    (kk : W p l e R s m args below meth c H locs 0 0 Q (F0 m (pc + 3) ls (.int (imn x y) :: rest))) : W p l e R s m args below meth c H locs 0 0 Q (F0 m pc ls (.int y :: .int x :: rest)) := by
  obtain ⟨hx, hb, hml, hown, hts, -⟩ := C
  exact va_mmin hx hb (by rw [hml]; exact hl.1.symm) hown (hts _ hm.1) (hts _ hm.2.1) (hts _ hm.2.2.1) (hts _ hm.2.2.2) hf (by omega) (Nat.zero_le _) (Nat.zero_le _) hd kk
theorem b_mabs (C : Cx p s m args meth c cc nL own w) (hl : lv_has ls nL lv) (hm : MM own idx Lib.Math.abs.name Lib.Math.abs.code 1 (some .int)) (hf : 1 ≤ R.frames) (hlo : (rest.map fun v => v.category).sum + 15 ≤ R.locals) {x : Int32} (hd : decode cc pc = .ok (.invokestatic idx, 3))
    (kk : W p l e R s m args below meth c H locs 0 0 Q (F0 m (pc + 3) ls (.int (iab x) :: rest))) : W p l e R s m args below meth c H locs 0 0 Q (F0 m pc ls (.int x :: rest)) := by
  obtain ⟨hx, hb, hml, hown, hts, -⟩ := C
  exact va_mabs hx hb (by rw [hml]; exact hl.1.symm) hown (hts _ hm.1) (hts _ hm.2.1) (hts _ hm.2.2.1) (hts _ hm.2.2.2) hf (by omega) (Nat.zero_le _) (Nat.zero_le _) hd kk
theorem b_lmax (C : Cx p s m args meth c cc nL own w) (hl : lv_has ls nL lv) (hm : MM own idx Lib.MathLoose.max_long.x Lib.MathLoose.max_long.code 4 (some .long)) (hf : 1 ≤ R.frames) (hlo : (rest.map fun v => v.category).sum + 15 ≤ R.locals) {x y : Int64} (hd : decode cc pc = .ok (.invokestatic idx, 3))
    (kk : W p l e R s m args below meth c H locs 0 0 Q (F0 m (pc + 3) ls (.long (lmx x y) :: rest))) : W p l e R s m args below meth c H locs 0 0 Q (F0 m pc ls (.long y :: .long x :: rest)) := by
  obtain ⟨hx, hb, hml, hown, hts, -⟩ := C
  exact va_mmax_long hx hb (by rw [hml]; exact hl.1.symm) hown (hts _ hm.1) (hts _ hm.2.1) (hts _ hm.2.2.1) (hts _ hm.2.2.2) hf (by omega) (Nat.zero_le _) (Nat.zero_le _) hd kk
theorem b_lmin (C : Cx p s m args meth c cc nL own w) (hl : lv_has ls nL lv) (hm : MM own idx Lib.MathLoose.min_long.x Lib.MathLoose.min_long.code 4 (some .long)) (hf : 1 ≤ R.frames) (hlo : (rest.map fun v => v.category).sum + 15 ≤ R.locals) {x y : Int64} (hd : decode cc pc = .ok (.invokestatic idx, 3))
    (kk : W p l e R s m args below meth c H locs 0 0 Q (F0 m (pc + 3) ls (.long (lmn x y) :: rest))) : W p l e R s m args below meth c H locs 0 0 Q (F0 m pc ls (.long y :: .long x :: rest)) := by
  obtain ⟨hx, hb, hml, hown, hts, -⟩ := C
  exact va_mmin_long hx hb (by rw [hml]; exact hl.1.symm) hown (hts _ hm.1) (hts _ hm.2.1) (hts _ hm.2.2.1) (hts _ hm.2.2.2) hf (by omega) (Nat.zero_le _) (Nat.zero_le _) hd kk
theorem b_labs (C : Cx p s m args meth c cc nL own w) (hl : lv_has ls nL lv) (hm : MM own idx Lib.MathLoose.abs_long.x Lib.MathLoose.abs_long.code 2 (some .long)) (hf : 1 ≤ R.frames) (hlo : (rest.map fun v => v.category).sum + 15 ≤ R.locals) {x : Int64} (hd : decode cc pc = .ok (.invokestatic idx, 3))
    (kk : W p l e R s m args below meth c H locs 0 0 Q (F0 m (pc + 3) ls (.long (lab x) :: rest))) : W p l e R s m args below meth c H locs 0 0 Q (F0 m pc ls (.long x :: rest)) := by
  obtain ⟨hx, hb, hml, hown, hts, -⟩ := C
  exact va_mabs_long hx hb (by rw [hml]; exact hl.1.symm) hown (hts _ hm.1) (hts _ hm.2.1) (hts _ hm.2.2.1) (hts _ hm.2.2.2) hf (by omega) (Nat.zero_le _) (Nat.zero_le _) hd kk
end Rows5
