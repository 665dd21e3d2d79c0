/-! laws: what they come to -/
theorem lgp {x y : Int64} : 0 < lg_cmp x y ↔ y < x := by
  unfold lg_cmp
  by_cases h : x > y
  · rw [if_pos h]; exact ⟨fun _ => h, fun _ => by decide⟩
  · rw [if_neg h]
    by_cases h2 : x = y
    · rw [if_pos h2]; exact ⟨fun q => absurd q (by decide), fun q => absurd q h⟩
    · rw [if_neg h2]; exact ⟨fun q => absurd q (by decide), fun q => absurd q h⟩
theorem lgn {x y : Int64} : lg_cmp x y < 0 ↔ x < y := by
  unfold lg_cmp
  by_cases h : x > y
  · rw [if_pos h]; exact ⟨fun q => absurd q (by decide), fun q => absurd (Int64.lt_trans q h) Int64.lt_irrefl⟩
  · rw [if_neg h]
    by_cases h2 : x = y
    · rw [if_pos h2]; subst h2; exact ⟨fun q => absurd q (by decide), fun q => absurd q Int64.lt_irrefl⟩
    · rw [if_neg h2]
      refine ⟨fun _ => ?_, fun _ => by decide⟩
      rcases Int64.lt_or_eq_of_le (Int64.not_lt.mp h) with q | q
      · exact q
      · exact absurd q h2
theorem lgz {x y : Int64} : lg_cmp x y = 0 ↔ x = y := by
  unfold lg_cmp
  by_cases h : x > y
  · rw [if_pos h]; exact ⟨fun q => absurd q (by decide), fun q => absurd (q ▸ h) Int64.lt_irrefl⟩
  · rw [if_neg h]
    by_cases h2 : x = y
    · rw [if_pos h2]; exact ⟨fun _ => h2, fun _ => rfl⟩
    · rw [if_neg h2]; exact ⟨fun q => absurd q (by decide), fun q => absurd q h2⟩
theorem lgnn {x y : Int64} : 0 ≤ lg_cmp x y ↔ y ≤ x := by
  rw [← Int32.not_lt, lgn, Int64.not_lt]
theorem lgnp {x y : Int64} : lg_cmp x y ≤ 0 ↔ x ≤ y := by
  rw [← Int32.not_lt, lgp, Int64.not_lt]
abbrev LGT : Int64 := 1000000000000
abbrev MIN : Int64 := -9223372036854775808
abbrev inB (v : Int64) : Prop := v ≤ LGT ∧ -LGT ≤ v
/-- two values joined by a sign; none: an ERROR -/
def jn (s : Int32) (a b : Int64) : Option Int64 :=
  if s = 35 then (if a = 0 then some 0 else if LGT / (if a < 0 then -a else a) < b ∨ b < -(LGT / (if a < 0 then -a else a)) then none else some (a * b))
  else if s = 33 then some (a + b) else if s = 34 then some (a - b)
  else if s = 36 then (if b = 0 then none else some (a / b))
  else if s = 27 then some (if a < b then 1 else 0) else if s = 28 then some (if a ≤ b then 1 else 0)
  else if s = 29 then some (if a = b then 1 else 0) else if s = 30 then some (if a = b then 0 else 1)
  else if s = 31 then some (if b ≤ a then 1 else 0) else if s = 32 then some (if b < a then 1 else 0)
  else if s = 11 then some (if a = 0 ∨ b = 0 then 0 else 1)
  else if s = 10 then some (if a = 0 ∧ b = 0 then 0 else 1) else none
def signs : List Int32 := [10, 11, 27, 28, 29, 30, 31, 32, 33, 34, 35, 36]
abbrev isNm (s : Int32) : Prop := 13 ≤ s ∧ s ≤ 19
def st1 (nm : Nat → Int32) (k : Int32 × Int32) (st : List Int64) : Option (List Int64) :=
  if k.1 = 21 then some (k.2.toInt64 :: st)
  else if isNm k.1 then some ((nm (k.1 - 13).toNatClampNeg).toInt64 :: st)
  else if k.1 = 12 then (match st with | a :: r => some ((if a = 0 then 1 else 0) :: r) | [] => none)
  else match st with
    | b :: a :: r => (match jn k.1 a b with | some v => if inB v then some (v :: r) else none | none => none)
    | _ => none
def evs (nm : Nat → Int32) : List (Int32 × Int32) → List Int64 → Option (List Int64)
  | [], st => some st
  | k :: L, st => match st1 nm k st with
    | some st' => evs nm L st'
    | none => none
def ev (L : List (Int32 × Int32)) (nm : Nat → Int32) : Option Int64 := match evs nm L [] with
  | some [v] => some v
  | _ => none
def tk (s : Int32) : Nat := if s = 21 ∨ isNm s then 0 else if s = 12 then 1 else 2
def dp : List (Int32 × Int32) → Nat → Option Nat
  | [], n => some n
  | k :: L, n => if n < tk k.1 then none else dp L (n - tk k.1 + 1)
abbrev gk (s : Int32) : Prop := s = 21 ∨ isNm s ∨ s = 12 ∨ s ∈ signs
def WL (L : List (Int32 × Int32)) : Prop := L.length ≤ 64 ∧ (∀ k ∈ L, gk k.1) ∧ (L = [] ∨ dp L 0 = some 1)
def Stk (f : Nat → Int64) : List Int64 → Prop
  | [] => True
  | a :: r => f r.length = a ∧ inB a ∧ Stk f r
theorem Stk.congr {f g : Nat → Int64} : ∀ {st : List Int64}, Stk f st → (∀ j, j < st.length → g j = f j) → Stk g st
  | [], _, _ => trivial
  | a :: r, h, e => ⟨(e _ (Nat.lt_succ_self _)).trans h.1, h.2.1, h.2.2.congr fun j hj => e j (Nat.lt_succ_of_lt hj)⟩
theorem inB_int (x : Int32) : inB x.toInt64 := by
  have h1 := Int32.toInt_lt x
  have h2 := Int32.le_toInt x
  constructor
  · rw [Int64.le_iff_toInt_le, Int32.toInt_toInt64, show LGT.toInt = 1000000000000 by decide]; omega
  · rw [Int64.le_iff_toInt_le, Int32.toInt_toInt64, show (-LGT).toInt = -1000000000000 by decide]; omega
theorem inB_0 : inB 0 := by decide
theorem inB_1 : inB 1 := by decide
theorem inB_ne {v : Int64} (h : inB v) : ¬ v = MIN := by rintro rfl; exact absurd h (by decide)
def jR (s : Int32) (a b : Int64) : Int64 := (jn s a b).getD MIN
theorem times_spec (a b : Int64) (μ : fMem) : f_X3_times a b μ = some (jR 35 a b, μ) := by
  unfold f_X3_times f_X3_times_j23 jR jn vl
  simp only [lgz, lgnn, lgp, if_true]
  by_cases h0 : a = 0
  · simp [h0]
  · have hn : ∀ x : Int64, ¬ x = 0 → ¬ -x = 0 := fun x hx hy => hx (by rw [← Int64.neg_neg (a := x), hy]; rfl)
    by_cases h1 : a < 0
    · have h2 : ¬ 0 ≤ a := Int64.not_le.mpr h1
      simp only [h0, h1, h2, if_false, if_true, gd_t (hn a h0)]
      by_cases h3 : LGT / -a < b
      · simp [h3]
      · by_cases h4 : -(LGT / -a) ≤ b
        · have h5 : ¬ b < -(LGT / -a) := Int64.not_lt.mpr h4
          simp [h3, h4, h5]
        · have h5 : b < -(LGT / -a) := Int64.not_le.mp h4
          simp [h3, h4, h5]
    · have h2 : 0 ≤ a := Int64.not_lt.mp h1
      simp only [h0, h1, h2, if_false, if_true, gd_t h0, not_false_eq_true]
      by_cases h3 : LGT / a < b
      · simp [h3, gd]
      · by_cases h4 : -(LGT / a) ≤ b
        · have h5 : ¬ b < -(LGT / a) := Int64.not_lt.mpr h4
          simp [h3, h4, h5, gd]
        · have h5 : b < -(LGT / a) := Int64.not_le.mp h4
          simp [h3, h4, h5, gd]
theorem join_spec {s : Int32} (a b : Int64) (μ : fMem) (hs : s ∈ signs) (h35 : ¬ s = 35) : f_X3_join s a b μ = some (jR s a b, μ) := by
  unfold f_X3_join jR jn
  simp only [lgz, lgnn, lgp, lgn, lgnp]
  simp only [signs, List.mem_cons, List.not_mem_nil, or_false] at hs
  rcases hs with rfl | rfl | rfl | rfl | rfl | rfl | rfl | rfl | rfl | rfl | rfl | rfl
  · by_cases h1 : a = 0 <;> by_cases h2 : b = 0 <;> simp [h1, h2]
  · by_cases h1 : a = 0 <;> by_cases h2 : b = 0 <;> simp [h1, h2]
  · by_cases h1 : b ≤ a
    · have := Int64.not_lt.mpr h1; simp [h1, this]
    · have := Int64.not_le.mp h1; simp [h1, this]
  · by_cases h1 : b < a
    · have := Int64.not_le.mpr h1; simp [h1, this]
    · have := Int64.not_lt.mp h1; simp [h1, this]
  · by_cases h1 : a = b <;> simp [h1]
  · by_cases h1 : a = b <;> simp [h1]
  · by_cases h1 : a < b
    · have := Int64.not_le.mpr h1; simp [h1, this]
    · have := Int64.not_lt.mp h1; simp [h1, this]
  · by_cases h1 : a ≤ b
    · have := Int64.not_lt.mpr h1; simp [h1, this]
    · have := Int64.not_le.mp h1; simp [h1, this]
  · simp
  · simp
  · exact absurd rfl h35
  · by_cases h1 : b = 0
    · simp [h1]
    · simp [h1, gd]
