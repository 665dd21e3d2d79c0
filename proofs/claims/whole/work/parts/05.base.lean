/-! the flat memory: ints, longs, changing references, by cell and place -/
abbrev fMem : Type := (Nat → Nat → Int32) × (Nat → Nat → Int64) × (Nat → Nat → Nat)
def fu {α : Type} (f : Nat → Nat → α) (k j : Nat) (v : α) : Nat → Nat → α := fun k' => if k' = k then (fun j' => if j' = j then v else f k j') else f k'
theorem fu_row {α : Type} {f : Nat → Nat → α} {k j k' : Nat} {v : α} (h : k' ≠ k) : fu f k j v k' = f k' := by simp [fu, h]
theorem fu_at {α : Type} {f : Nat → Nat → α} {k j : Nat} {v : α} : fu f k j v k = fun j' => if j' = j then v else f k j' := by simp [fu]
theorem fu_eq {α : Type} {f : Nat → Nat → α} {k j : Nat} {v : α} : fu f k j v k j = v := by simp [fu]
theorem fu_ne {α : Type} {f : Nat → Nat → α} {k j j' : Nat} {v : α} (h : j' ≠ j) : fu f k j v k j' = f k j' := by simp [fu, h]
def sI (μ : fMem) (k j : Nat) (v : Int32) : fMem := (fu μ.1 k j v, μ.2)
def sL (μ : fMem) (k j : Nat) (v : Int64) : fMem := (μ.1, fu μ.2.1 k j v, μ.2.2)
def sR (μ : fMem) (k j : Nat) (v : Nat) : fMem := (μ.1, μ.2.1, fu μ.2.2 k j v)
/-- answers of one call behind another -/
def bd {α β γ : Type} (x : Option (α × β)) (f : α → β → Option γ) : Option γ := match x with
  | none => none
  | some q => f q.1 q.2
theorem bd_ok {α β γ : Type} {x : Option (α × β)} {f : α → β → Option γ} {z : γ} (h : bd x f = some z) : ∃ a b, x = some (a, b) ∧ f a b = some z := by
  cases x with
  | none => cases h
  | some q => exact ⟨q.1, q.2, rfl, h⟩
theorem bd_some {α β γ : Type} {a : α} {b : β} {f : α → β → Option γ} : bd (some (a, b)) f = f a b := rfl
/-- a test that must hold -/
def gd {α : Type} (c : Prop) [Decidable c] (x : Option α) : Option α := if c then x else none
theorem gd_ok {α : Type} {c : Prop} [Decidable c] {x : Option α} {z : α} (h : gd c x = some z) : c ∧ x = some z := by
  unfold gd at h
  split at h
  · exact ⟨by assumption, h⟩
  · cases h
theorem gd_t {α : Type} {c : Prop} [Decidable c] {x : Option α} (h : c) : gd c x = x := if_pos h
/-- an index within -/
abbrev ixo (i : Int32) (n : Nat) : Prop := ¬ (i < 0 ∨ n ≤ i.toNatClampNeg)
abbrev bl (v : Int32) : Prop := v = 0 ∨ v = 1
/-- a loop, some steps of it: 0: again; t + 1: out by the t-th way -/
def lpn {σ : Type} (b : σ → Option (Nat × σ)) : Nat → σ → Option (Nat × σ)
  | 0, _ => none
  | n + 1, s => match b s with
    | none => none
    | some (0, s') => lpn b n s'
    | some (t + 1, s') => some (t, s')
theorem lpn_ind {σ : Type} {b : σ → Option (Nat × σ)} {P : σ → Prop} {K : Nat → σ → Prop} (hs : ∀ s t s', b s = some (t, s') → (t = 0 → P s') → (∀ i, t = i + 1 → K i s') → P s) : ∀ n s t s', lpn b n s = some (t, s') → K t s' → P s
  | 0, _, _, _, h, _ => by cases h
  | n + 1, s, t, s', h, hk => by
    unfold lpn at h
    cases hb : b s with
    | none => rw [hb] at h; cases h
    | some q =>
      obtain ⟨u, s1⟩ := q
      rw [hb] at h
      cases u with
      | zero => exact hs s 0 s1 hb (fun _ => lpn_ind hs n s1 t s' h hk) (fun i hi => by cases hi)
      | succ u =>
        have e : (u, s1) = (t, s') := Option.some.inj h
        have e1 : u = t := congrArg Prod.fst e
        have e2 : s1 = s' := congrArg Prod.snd e
        refine hs s (u + 1) s1 hb (fun hi => absurd hi (Nat.succ_ne_zero _)) (fun i hi => ?_)
        have e3 : u = i := Nat.succ.inj hi
        rw [e2, ← e3, e1]
        exact hk
/-! a world: the classes' numbers, the arrays' classes, the addresses, the side -/
abbrev fZ : Type := Nat × Nat × (Nat → Nat → Bool)
abbrev fW : Type := va_G × (Nat → ClassId) × (Nat → Nat) × fZ
/-- all of a side's cells, all their fields told -/
def sd (b : Nat) : fZ := (loW b, hiW b, fun _ _ => true)
abbrev inW (x : fZ) (k : Nat) : Prop := x.1 ≤ k ∧ k < x.2.1
def fval (ad : Nat → Nat) (z : Nat → Nat → Bool) (μ : fMem) (k ci j : Nat) : Value := match ft ci j with
  | 0 => .int (μ.1 k j)
  | 1 => .int (μ.1 k j)
  | 2 => .long (μ.2.1 k j)
  | 3 => if z k j then .ref (ad (k + fo ci j)) else .null
  | _ => if z k j then .ref (ad (μ.2.2 k j)) else .null
def flds (ad : Nat → Nat) (z : Nat → Nat → Bool) (μ : fMem) (k ci : Nat) : List Value := (List.range (fN ci)).map (fval ad z μ k ci)
def cellE (ad : Nat → Nat) (cA : Nat → ClassId) (z : Nat → Nat → Bool) (μ : fMem) (k : Nat) : va_E := match kd k with
  | (0, n) => .inl (cA 0, n, .inl (μ.1 k))
  | (1, n) => .inl (cA 1, n, .inl (μ.1 k))
  | (2, n) => .inl (cA 2, n, .inr (.inl (μ.2.1 k)))
  | (3, n) => .inl (cA 3, n, .inr (.inr (.inr (.inr (fun i => some (ad (k + 1 + i)))))))
  | (_, ci) => .inr (ci, flds ad z μ k ci)
theorem cellE_0 {ad : Nat → Nat} {cA : Nat → ClassId} {z : Nat → Nat → Bool} {μ : fMem} {k n : Nat} (h : kd k = (0, n)) : cellE ad cA z μ k = .inl (cA 0, n, .inl (μ.1 k)) := by unfold cellE; rw [h]; rfl
theorem cellE_1 {ad : Nat → Nat} {cA : Nat → ClassId} {z : Nat → Nat → Bool} {μ : fMem} {k n : Nat} (h : kd k = (1, n)) : cellE ad cA z μ k = .inl (cA 1, n, .inl (μ.1 k)) := by unfold cellE; rw [h]; rfl
theorem cellE_2 {ad : Nat → Nat} {cA : Nat → ClassId} {z : Nat → Nat → Bool} {μ : fMem} {k n : Nat} (h : kd k = (2, n)) : cellE ad cA z μ k = .inl (cA 2, n, .inr (.inl (μ.2.1 k))) := by unfold cellE; rw [h]; rfl
theorem cellE_3 {ad : Nat → Nat} {cA : Nat → ClassId} {z : Nat → Nat → Bool} {μ : fMem} {k n : Nat} (h : kd k = (3, n)) : cellE ad cA z μ k = .inl (cA 3, n, .inr (.inr (.inr (.inr (fun i => some (ad (k + 1 + i))))))) := by unfold cellE; rw [h]; rfl
theorem cellE_4 {ad : Nat → Nat} {cA : Nat → ClassId} {z : Nat → Nat → Bool} {μ : fMem} {k n : Nat} (h : kd k = (4, n)) : cellE ad cA z μ k = .inr (n, flds ad z μ k n) := by unfold cellE; rw [h]; rfl
/-- a cell depends on its own row of the memory alone -/
theorem cellE_of {ad : Nat → Nat} {cA : Nat → ClassId} {z : Nat → Nat → Bool} {μ ν : fMem} {k : Nat} (h1 : μ.1 k = ν.1 k) (h2 : μ.2.1 k = ν.2.1 k) (h3 : μ.2.2 k = ν.2.2 k) : cellE ad cA z μ k = cellE ad cA z ν k := by
  have e : ∀ ci, flds ad z μ k ci = flds ad z ν k ci := fun ci => by
    unfold flds
    refine List.map_congr_left (fun j _ => ?_)
    unfold fval
    rw [h1, h2, h3]
  unfold cellE
  rw [h1, h2]
  split <;> first | rfl | rw [e]
def fcs (w : fW) (μ : fMem) : va_W := (List.range (w.2.2.2.2.1 - w.2.2.2.1)).map (fun i => (w.2.2.1 (w.2.2.2.1 + i), cellE w.2.2.1 w.2.1 w.2.2.2.2.2 μ (w.2.2.2.1 + i)))
abbrev fty (w : fW) : List (ClassId × FieldType) := [(w.2.1 0, .int), (w.2.1 1, .boolean), (w.2.1 2, .long), (w.2.1 3, .array .int)]
def fP (w : fW) (μ : fMem) (H : Heap) : Prop := va_P w.1 vwCl (fcs w μ) H
def fK (w : fW) (s : State) : Prop := va_K w.1 vwCl (fty w) s
def fJ (w : fW) : Prop := (∀ i j, inW w.2.2.2 i → inW w.2.2.2 j → w.2.2.1 i = w.2.2.1 j → i = j) ∧ ∀ k, inW w.2.2.2 k → w.2.2.1 0 ≤ w.2.2.1 k
def fA (w : fW) : Nat → Prop := fun q => ∃ k, inW w.2.2.2 k ∧ q = w.2.2.1 k
/-- all that is newer than the world's first cell -/
def fG (w : fW) : Nat → Prop := fun q => w.2.2.1 0 ≤ q
theorem fA_G {w : fW} (h : fJ w) {q : Nat} (hq : fA w q) : fG w q := by
  obtain ⟨k, hk, rfl⟩ := hq
  exact h.2 k hk
theorem va_S.wide {w : fW} {H0 H : Heap} {locs : List Loc} (h : va_S (fA w) H0 H locs) (hJ : fJ w) : va_S (fG w) H0 H locs := ⟨h.1, fun q hq hn => h.2.1 q hq (fun z => hn (fA_G hJ z)), fun l hl => fA_G hJ (h.2.2 l hl)⟩
theorem fcs_get {w : fW} {μ : fMem} {k : Nat} (h : inW w.2.2.2 k) : (fcs w μ)[k - w.2.2.2.1]? = some (w.2.2.1 k, cellE w.2.2.1 w.2.1 w.2.2.2.2.2 μ k) := by
  unfold fcs
  obtain ⟨h1, h2⟩ := h
  have e : w.2.2.2.1 + (k - w.2.2.2.1) = k := by omega
  rw [List.getElem?_map, List.getElem?_range (by omega)]
  simp only [Option.map_some, e]
theorem fcs_D {w : fW} (h : fJ w) (μ : fMem) : va_D (fA w) (fcs w μ) := by
  have key : ∀ (i : Nat) (p : Nat × va_E), (fcs w μ)[i]? = some p → i < w.2.2.2.2.1 - w.2.2.2.1 ∧ p.1 = w.2.2.1 (w.2.2.2.1 + i) := by
    intro i p hp
    unfold fcs at hp
    rw [List.getElem?_map] at hp
    rcases Nat.lt_or_ge i (w.2.2.2.2.1 - w.2.2.2.1) with hi | hi
    · rw [List.getElem?_range hi] at hp
      have := Option.some.inj hp
      exact ⟨hi, by rw [← this]⟩
    · rw [List.getElem?_eq_none (by simpa using hi)] at hp
      cases hp
  refine ⟨fun i j p q hp hq e => ?_, fun k q hq => ?_⟩
  · obtain ⟨i1, i2⟩ := key i p hp
    obtain ⟨j1, j2⟩ := key j q hq
    have := h.1 (w.2.2.2.1 + i) (w.2.2.2.1 + j) ⟨by omega, by omega⟩ ⟨by omega, by omega⟩ (by rw [← i2, ← j2, e])
    omega
  · obtain ⟨i1, i2⟩ := key k q hq
    exact ⟨w.2.2.2.1 + k, ⟨by omega, by omega⟩, i2⟩
theorem fcs_set {w : fW} {μ ν : fMem} {k : Nat} (h : inW w.2.2.2 k) (ho : ∀ j, j ≠ k → cellE w.2.2.1 w.2.1 w.2.2.2.2.2 μ j = cellE w.2.2.1 w.2.1 w.2.2.2.2.2 ν j) : (fcs w μ).set (k - w.2.2.2.1) (w.2.2.1 k, cellE w.2.2.1 w.2.1 w.2.2.2.2.2 ν k) = fcs w ν := by
  obtain ⟨h1, h2⟩ := h
  apply List.ext_getElem?
  intro i
  unfold fcs
  rw [List.getElem?_set]
  simp only [List.length_map, List.length_range]
  by_cases hi : k - w.2.2.2.1 = i
  · subst hi
    have e : w.2.2.2.1 + (k - w.2.2.2.1) = k := by omega
    rw [if_pos rfl, if_pos (by omega), List.getElem?_map, List.getElem?_range (by omega)]
    simp only [Option.map_some, e]
  · rw [if_neg hi, List.getElem?_map, List.getElem?_map]
    rcases Nat.lt_or_ge i (w.2.2.2.2.1 - w.2.2.2.1) with hj | hj
    · rw [List.getElem?_range hj]
      simp only [Option.map_some]
      rw [ho _ (by omega)]
    · rw [List.getElem?_eq_none (by simpa using hj)]
      rfl
/-! what stays outside the world: the row of bounds, the two lists of words -/
def mostT : List Int32 := [6, 9, 8, 6, 9, 1]
def wordsB (i : Nat) : List Int32 := match i with
  | 0 => [114, 111, 111, 109, 32, 32, 100, 111, 111, 114, 32, 32, 116, 104, 105, 110, 103, 32, 100, 101, 97, 100, 32, 32, 103, 108, 97, 115, 115, 32, 115, 101, 101, 100, 32, 32, 108, 97, 119, 32, 32, 32, 108, 105, 107, 101, 32, 32, 98, 101, 97, 114, 32, 32, 99, 111, 109, 101, 32, 32, 111, 114, 32, 32, 32, 32, 97, 110, 100, 32, 32, 32, 110, 111, 116, 32, 32, 32, 97, 103, 101, 32, 32, 32, 107, 105, 110, 100, 32, 32, 116, 97, 115, 116, 101, 32, 102, 111, 110, 100, 32, 32, 119, 97, 114, 109, 32, 32, 103, 97, 117, 103, 101, 32, 109, 111, 110, 100, 97, 121]
  | _ => [114, 111, 111, 109, 32, 100, 111, 111, 114, 32, 116, 104, 105, 110, 103, 32, 100, 101, 97, 100, 32, 103, 108, 97, 115, 115, 32, 115, 101, 101, 100, 32, 108, 97, 119, 32, 108, 105, 107, 101, 32, 98, 101, 97, 114, 32, 99, 111, 109, 101, 32, 111, 114, 32, 97, 110, 100, 32, 110, 111, 116, 32, 97, 103, 101, 32, 107, 105, 110, 100, 32, 116, 97, 115, 116, 101, 32, 102, 111, 110, 100, 32, 119, 97, 114, 109, 32, 103, 97, 117, 103, 101, 32, 109, 111, 110, 100, 97, 121, 32]
def fT (w : fW) (U : State) (H : Heap) : Prop :=
  (va_Z "DeadMonday$Reader" "MOST" "[I" (.ref (w.2.2.1 1020)) (fG w) U H ∧ va_T .int (w.2.2.1 1020) 6 (fun j => .int (mostT.getD j 0)) (fG w) U H) ∧
  (va_Z "java/lang/String" "COMPACT_STRINGS" "Z" (.int 1) (fG w) U H ∧ va_Zq "jdk/internal/util/Preconditions" "SIOOBE_FORMATTER" "Ljava/util/function/BiFunction;" (fG w) U H) ∧
  vk_S 2 [120, 100] [wordsB 0, wordsB 1] (fun i => w.2.2.1 (1000 + i)) (fun i => w.2.2.1 (1010 + i)) (fG w) U H ∧ vk_R "DeadMonday$Tokens" 46 "room  door  thing dead  glass seed  law   like  bear  come  or    and   not   age   kind  taste fond  warm  gauge monday" (w.2.2.1 (1000 + 0)) U ∧ vk_R "DeadMondayModel" 191 "room door thing dead glass seed law like bear come or and not age kind taste fond warm gauge monday " (w.2.2.1 (1000 + 1)) U
theorem fT.warm {w : fW} {s U : State} {H H1 : Heap} (h : fT w s H) (hW : s.WarmedH U.vm) (hq : ∀ a : Nat, a < H.size → ¬ fG w a → H1[a]? = H[a]?) : fT w U H1 := by
  obtain ⟨⟨h1, h2⟩, ⟨h6, h7⟩, h3, h4, h5⟩ := h
  exact ⟨⟨(va_Z.moved hW.alike h1).kept hq, (va_T.moved hW.alike h2).kept hq⟩, ⟨(va_Z.moved hW.alike h6).kept hq, h7.elim (fun z => Or.inl ((va_Z.moved hW.alike z).kept hq)) (fun ⟨t, z⟩ => Or.inr ⟨t, (va_Z.moved hW.alike z).kept hq⟩)⟩, (vk_S.moved hW.alike h3).kept hq, vk_R.warm hW h4, vk_R.warm hW h5⟩
theorem fT.same {w : fW} {s U : State} {H : Heap} (h : fT w s H) (hv : U.vm = s.vm) : fT w U H := by
  obtain ⟨⟨h1, h2⟩, ⟨h6, h7⟩, h3, h4, h5⟩ := h
  have ha : s.vm.Alike U.vm := by rw [hv]; exact Vm.Alike.refl s.vm
  exact ⟨⟨va_Z.moved ha h1, va_T.moved ha h2⟩, ⟨va_Z.moved ha h6, h7.elim (fun z => Or.inl (va_Z.moved ha z)) (fun ⟨t, z⟩ => Or.inr ⟨t, va_Z.moved ha z⟩)⟩, vk_S.moved ha h3, vk_R.same hv h4, vk_R.same hv h5⟩
/-- what a method's walk stands on -/
def Cx (p : Program) (s : State) (m : MethodId) (args : Array Value) (meth : Method) (c : Code) (cc : ByteArray) (nL : Nat) (own : String) (w : fW) : Prop :=
  p.tables.exec = Jvm.exec ∧ c.code = cc ∧ c.maxLocals = nL ∧ s.vm.findClass own = some m.cls ∧ (∀ x ∈ gw, x.before args s = true) ∧ fK w s ∧ fJ w ∧ meth.locks = false ∧ fT w s s.heap
/-- a field by a pool entry -/
def FL (own : String) (idx ci j : Nat) : Prop := ∃ q : vw_C, vwCl[ci]? = some q ∧ j < q.2.2 ∧ q.2.2 = fN ci ∧ Cond.fieldLink own idx (q.2.1 j).1 (q.2.1 j).2.1 (q.2.1 j).2.2.1 ∈ gw ∧ (∀ x ∈ u_ws q.1 q.2.1 q.2.2, x ∈ gw)
def FP (own : String) (idx ci j : Nat) (ty : FieldType) : Prop := ∃ q : vw_C, vwCl[ci]? = some q ∧ j < q.2.2 ∧ q.2.2 = fN ci ∧ Cond.fieldLink own idx (q.2.1 j).1 (q.2.1 j).2.1 (q.2.1 j).2.2.1 ∈ gw ∧ (∀ x ∈ u_ws q.1 q.2.1 q.2.2, x ∈ gw) ∧
  (∃ ty0 : Nat → FieldType, ∀ k, k < q.2.2 → parseFieldDescriptor (q.2.1 k).2.2.1 = some (ty0 k)) ∧ (∀ a, a < q.2.2 → ∀ b, b < q.2.2 → a ≠ b → (q.2.1 a).2.1 ≠ (q.2.1 b).2.1) ∧ (q.2.1 j).2.2.2 = false ∧ parseFieldDescriptor (q.2.1 j).2.2.1 = some ty
section Rows
variable {p : Program} {l : Launch} {e : Env} {R : Room} {s : State} {m : MethodId} {args : Array Value} {below : List Frame} {meth : Method} {c : Code} {H H0 : Heap} {locs : List Loc} {cells slots : Nat} {Q : State → Prop} {cc : ByteArray} {nL pc : Nat} {own : String} {w : fW} {μ : fMem} {ls : Array Slot} {rest : List Value}
theorem flds_get {ad : Nat → Nat} {z : Nat → Nat → Bool} {μ : fMem} {k ci j : Nat} (h : j < fN ci) : (flds ad z μ k ci)[j]? = some (fval ad z μ k ci j) := by
  unfold flds
  rw [List.getElem?_map, List.getElem?_range h]
  rfl
theorem flds_set {ad : Nat → Nat} {z z' : Nat → Nat → Bool} {μ ν : fMem} {k ci j : Nat} (ho : ∀ i, i ≠ j → fval ad z μ k ci i = fval ad z' ν k ci i) : (flds ad z μ k ci).set j (fval ad z' ν k ci j) = flds ad z' ν k ci := by
  apply List.ext_getElem?
  intro i
  unfold flds
  rw [List.getElem?_set]
  simp only [List.length_map, List.length_range]
  by_cases hi : j = i
  · subst hi
    rw [if_pos rfl]
    split
    · rename_i h
      rw [List.getElem?_map, List.getElem?_range h]
      rfl
    · rename_i h
      rw [List.getElem?_eq_none (by simp; omega)]
  · rw [if_neg hi, List.getElem?_map, List.getElem?_map]
    rcases Nat.lt_or_ge i (fN ci) with hj | hj
    · rw [List.getElem?_range hj]
      simp only [Option.map_some]
      rw [ho _ (fun q => hi q.symm)]
    · rw [List.getElem?_eq_none (by simpa using hj)]
      rfl
theorem r_get (C : Cx p s m args meth c cc nL own w) (hP : fP w μ H) {k ci j idx : Nat} (hk : inW w.2.2.2 k) (hkd : kd k = (4, ci)) (hL : FL own idx ci j) (hd : decode cc pc = .ok (.getfield idx, 3))
    (kk : W p l e R s m args below meth c H locs cells slots Q (F0 m (pc + 3) ls (fval w.2.2.1 w.2.2.2.2.2 μ k ci j :: rest))) : W p l e R s m args below meth c H locs cells slots Q (F0 m pc ls (.ref (w.2.2.1 k) :: rest)) := by
  obtain ⟨hx, hb, -, hown, hts, hK, -, -⟩ := C
  obtain ⟨q, hq, hj, hn, hl, hin⟩ := hL
  have hg := fcs_get (μ := μ) hk
  rw [cellE_4 hkd] at hg
  exact va_get (D := w.1) (C := q.1) (T := q.2.1) (N := q.2.2) hx hb hts hin hown hK hP (k - w.2.2.2.1) hg hq j hj (hts _ hl) (fun _ h => h) (flds_get (by rw [← hn]; exact hj)) hd kk
theorem r_getI (C : Cx p s m args meth c cc nL own w) (hP : fP w μ H) {k ci j idx : Nat} (hk : inW w.2.2.2 k) (hkd : kd k = (4, ci)) (hL : FL own idx ci j) (hf : ft ci j = 0 ∨ ft ci j = 1) (hd : decode cc pc = .ok (.getfield idx, 3))
    (kk : W p l e R s m args below meth c H locs cells slots Q (F0 m (pc + 3) ls (.int (μ.1 k j) :: rest))) : W p l e R s m args below meth c H locs cells slots Q (F0 m pc ls (.ref (w.2.2.1 k) :: rest)) := by
  refine r_get C hP hk hkd hL hd ?_
  have e : fval w.2.2.1 w.2.2.2.2.2 μ k ci j = .int (μ.1 k j) := by unfold fval; rcases hf with h | h <;> rw [h] <;> rfl
  rw [e]
  exact kk
theorem r_getL (C : Cx p s m args meth c cc nL own w) (hP : fP w μ H) {k ci j idx : Nat} (hk : inW w.2.2.2 k) (hkd : kd k = (4, ci)) (hL : FL own idx ci j) (hf : ft ci j = 2) (hd : decode cc pc = .ok (.getfield idx, 3))
    (kk : W p l e R s m args below meth c H locs cells slots Q (F0 m (pc + 3) ls (.long (μ.2.1 k j) :: rest))) : W p l e R s m args below meth c H locs cells slots Q (F0 m pc ls (.ref (w.2.2.1 k) :: rest)) := by
  refine r_get C hP hk hkd hL hd ?_
  have e : fval w.2.2.1 w.2.2.2.2.2 μ k ci j = .long (μ.2.1 k j) := by unfold fval; rw [hf]; rfl
  rw [e]
  exact kk
theorem r_getF (C : Cx p s m args meth c cc nL own w) (hP : fP w μ H) {k ci j idx off : Nat} (hk : inW w.2.2.2 k) (hkd : kd k = (4, ci)) (hL : FL own idx ci j) (hf : ft ci j = 3) (ho : fo ci j = off) (hz : w.2.2.2.2.2 k j = true) (hd : decode cc pc = .ok (.getfield idx, 3))
    (kk : W p l e R s m args below meth c H locs cells slots Q (F0 m (pc + 3) ls (.ref (w.2.2.1 (k + off)) :: rest))) : W p l e R s m args below meth c H locs cells slots Q (F0 m pc ls (.ref (w.2.2.1 k) :: rest)) := by
  refine r_get C hP hk hkd hL hd ?_
  have e : fval w.2.2.1 w.2.2.2.2.2 μ k ci j = .ref (w.2.2.1 (k + off)) := by unfold fval; rw [hf, ho]; simp [hz]
  rw [e]
  exact kk
theorem r_getR (C : Cx p s m args meth c cc nL own w) (hP : fP w μ H) {k ci j idx : Nat} (hk : inW w.2.2.2 k) (hkd : kd k = (4, ci)) (hL : FL own idx ci j) (hf : ft ci j = 4) (hz : w.2.2.2.2.2 k j = true) (hd : decode cc pc = .ok (.getfield idx, 3))
    (kk : W p l e R s m args below meth c H locs cells slots Q (F0 m (pc + 3) ls (.ref (w.2.2.1 (μ.2.2 k j)) :: rest))) : W p l e R s m args below meth c H locs cells slots Q (F0 m pc ls (.ref (w.2.2.1 k) :: rest)) := by
  refine r_get C hP hk hkd hL hd ?_
  have e : fval w.2.2.1 w.2.2.2.2.2 μ k ci j = .ref (w.2.2.1 (μ.2.2 k j)) := by unfold fval; rw [hf]; simp [hz]
  rw [e]
  exact kk
/-- a store into a field: any new memory that differs in this place alone -/
theorem r_put (C : Cx p s m args meth c cc nL own w) (hP : fP w μ H) (hS : va_S (fA w) H0 H locs) {ν : fMem} {k ci j idx : Nat} {ty : FieldType} {v : Value} (hk : inW w.2.2.2 k) (hkd : kd k = (4, ci)) (hL : FP own idx ci j ty) (hn : narrow ty v = v) (hfit : fits ty v = true)
    (h1 : ∀ k', k' ≠ k → μ.1 k' = ν.1 k') (h2 : ∀ k', k' ≠ k → μ.2.1 k' = ν.2.1 k') (h3 : ∀ k', k' ≠ k → μ.2.2 k' = ν.2.2 k') (hv : fval w.2.2.1 w.2.2.2.2.2 ν k ci j = v) (ho : ∀ i, i ≠ j → fval w.2.2.1 w.2.2.2.2.2 μ k ci i = fval w.2.2.1 w.2.2.2.2.2 ν k ci i) (hd : decode cc pc = .ok (.putfield idx, 3))
    (kk : ∀ (H1 : Heap) (locs1 : List Loc), fP w ν H1 → va_S (fA w) H0 H1 locs1 → W p l e R s m args below meth c H1 locs1 cells slots Q (F0 m (pc + 3) ls rest)) : W p l e R s m args below meth c H locs cells slots Q (F0 m pc ls (v :: .ref (w.2.2.1 k) :: rest)) := by
  obtain ⟨hx, hb, -, hown, hts, hK, hJ, -⟩ := C
  obtain ⟨q, hq, hj, hnn, hl, hin, ⟨ty0, hty⟩, hnm, hfin, hpd⟩ := hL
  have hg := fcs_get (μ := μ) hk
  rw [cellE_4 hkd] at hg
  refine va_put (D := w.1) (C := q.1) (T := q.2.1) (N := q.2.2) hx hb hts hin ty0 hty hnm hown hK hP (fcs_D hJ μ) hS (k - w.2.2.2.1) hg hq j hj (hts _ hl) (fun _ h => h) hfin hpd hn hfit (by simp only [flds, List.length_map, List.length_range]; rw [← hnn]; exact hj) hd (fun H1 locs1 q1 _ q3 => kk H1 locs1 ?_ q3)
  have e : (fcs w μ).set (k - w.2.2.2.1) (w.2.2.1 k, .inr (ci, (flds w.2.2.1 w.2.2.2.2.2 μ k ci).set j v)) = fcs w ν := by
    rw [← hv, flds_set ho, ← cellE_4 (cA := w.2.1) hkd]
    exact fcs_set hk (fun i hi => cellE_of (h1 i hi) (h2 i hi) (h3 i hi))
  unfold fP
  rw [← e]
  exact q1
theorem r_putI (C : Cx p s m args meth c cc nL own w) (hP : fP w μ H) (hS : va_S (fA w) H0 H locs) {k ci j idx : Nat} {v : Int32} (hk : inW w.2.2.2 k) (hkd : kd k = (4, ci)) (hL : FP own idx ci j .int) (hf : ft ci j = 0) (hd : decode cc pc = .ok (.putfield idx, 3))
    (kk : ∀ (H1 : Heap) (locs1 : List Loc), fP w (sI μ k j v) H1 → va_S (fA w) H0 H1 locs1 → W p l e R s m args below meth c H1 locs1 cells slots Q (F0 m (pc + 3) ls rest)) : W p l e R s m args below meth c H locs cells slots Q (F0 m pc ls (.int v :: .ref (w.2.2.1 k) :: rest)) := by
  refine r_put C hP hS (ν := sI μ k j v) hk hkd hL rfl rfl (fun _ h => (fu_row h).symm) (fun _ _ => rfl) (fun _ _ => rfl) ?_ (fun i hi => ?_) hd kk
  · unfold fval; rw [hf]; simp [sI, fu]
  · unfold fval; simp [sI, fu, hi]
theorem r_putZ (C : Cx p s m args meth c cc nL own w) (hP : fP w μ H) (hS : va_S (fA w) H0 H locs) {k ci j idx : Nat} {v : Int32} (hk : inW w.2.2.2 k) (hkd : kd k = (4, ci)) (hL : FP own idx ci j .boolean) (hf : ft ci j = 1) (hv : bl v) (hd : decode cc pc = .ok (.putfield idx, 3))
    (kk : ∀ (H1 : Heap) (locs1 : List Loc), fP w (sI μ k j v) H1 → va_S (fA w) H0 H1 locs1 → W p l e R s m args below meth c H1 locs1 cells slots Q (F0 m (pc + 3) ls rest)) : W p l e R s m args below meth c H locs cells slots Q (F0 m pc ls (.int v :: .ref (w.2.2.1 k) :: rest)) := by
  refine r_put C hP hS (ν := sI μ k j v) hk hkd hL (by rcases hv with rfl | rfl <;> rfl) (by rcases hv with rfl | rfl <;> rfl) (fun _ h => (fu_row h).symm) (fun _ _ => rfl) (fun _ _ => rfl) ?_ (fun i hi => ?_) hd kk
  · unfold fval; rw [hf]; simp [sI, fu]
  · unfold fval; simp [sI, fu, hi]
theorem r_putL (C : Cx p s m args meth c cc nL own w) (hP : fP w μ H) (hS : va_S (fA w) H0 H locs) {k ci j idx : Nat} {v : Int64} (hk : inW w.2.2.2 k) (hkd : kd k = (4, ci)) (hL : FP own idx ci j .long) (hf : ft ci j = 2) (hd : decode cc pc = .ok (.putfield idx, 3))
    (kk : ∀ (H1 : Heap) (locs1 : List Loc), fP w (sL μ k j v) H1 → va_S (fA w) H0 H1 locs1 → W p l e R s m args below meth c H1 locs1 cells slots Q (F0 m (pc + 3) ls rest)) : W p l e R s m args below meth c H locs cells slots Q (F0 m pc ls (.long v :: .ref (w.2.2.1 k) :: rest)) := by
  refine r_put C hP hS (ν := sL μ k j v) hk hkd hL rfl rfl (fun _ _ => rfl) (fun _ h => (fu_row h).symm) (fun _ _ => rfl) ?_ (fun i hi => ?_) hd kk
  · unfold fval; rw [hf]; simp [sL, fu]
  · unfold fval; simp [sL, fu, hi]
theorem r_putR (C : Cx p s m args meth c cc nL own w) (hP : fP w μ H) (hS : va_S (fA w) H0 H locs) {k ci j idx v : Nat} {cl : String} (hk : inW w.2.2.2 k) (hkd : kd k = (4, ci)) (hL : FP own idx ci j (.object cl)) (hf : ft ci j = 4) (hz : w.2.2.2.2.2 k j = true) (hd : decode cc pc = .ok (.putfield idx, 3))
    (kk : ∀ (H1 : Heap) (locs1 : List Loc), fP w (sR μ k j v) H1 → va_S (fA w) H0 H1 locs1 → W p l e R s m args below meth c H1 locs1 cells slots Q (F0 m (pc + 3) ls rest)) : W p l e R s m args below meth c H locs cells slots Q (F0 m pc ls (.ref (w.2.2.1 v) :: .ref (w.2.2.1 k) :: rest)) := by
  refine r_put C hP hS (ν := sR μ k j v) hk hkd hL rfl rfl (fun _ _ => rfl) (fun _ _ => rfl) (fun _ h => (fu_row h).symm) ?_ (fun i hi => ?_) hd kk
  · unfold fval; rw [hf]; simp [sR, fu, hz]
  · unfold fval; simp [sR, fu, hi]
end Rows
