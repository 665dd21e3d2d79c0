/-! the words that hold at every call, the cells of both worlds -/
def gw : List Cond := lw_tbl.filter goodWord
theorem gw_mem {x : Cond} (i : Nat) (h : lw_tbl[i]? = some x) (hg : goodWord x = true) : x ∈ gw := List.mem_filter.mpr ⟨List.mem_of_getElem? h, hg⟩
theorem gw_good : ∀ x ∈ gw, (x.onTables && x.keeps) = true ∨ ∃ ty, x = .arrayClass ty := fun x h => good_of_word (List.mem_filter.mp h).2
def kdT : List (Nat × Nat) := [(4, 10), (0, 700), (4, 2), (0, 6), (3, 4), (0, 8), (0, 8), (0, 8), (0, 8), (0, 6), (0, 8), (0, 8), (0, 8), (0, 6), (0, 6), (0, 6), (0, 6), (0, 9), (4, 3), (0, 64), (0, 64), (2, 64), (4, 3), (0, 64), (0, 64), (2, 64), (4, 3), (0, 64), (0, 64), (2, 64), (4, 5), (4, 9), (0, 20), (0, 701), (0, 701), (0, 701), (0, 700), (4, 2), (0, 6), (3, 4), (0, 8), (0, 8), (0, 8), (0, 8), (0, 6), (0, 8), (0, 8), (0, 8), (0, 6), (0, 6), (0, 6), (0, 6), (0, 9), (4, 3), (0, 64), (0, 64), (2, 64), (4, 3), (0, 64), (0, 64), (2, 64), (4, 3), (0, 64), (0, 64), (2, 64), (0, 72), (4, 7), (0, 8), (0, 8), (0, 8), (0, 6), (0, 6), (4, 7), (0, 8), (0, 8), (0, 8), (0, 6), (0, 6), (4, 7), (0, 8), (0, 8), (0, 8), (0, 6), (0, 6), (4, 0), (4, 2), (0, 6), (3, 4), (0, 8), (0, 8), (0, 8), (0, 8), (0, 6), (0, 8), (0, 8), (0, 8), (0, 6), (0, 6), (0, 6), (0, 6), (0, 9), (4, 3), (0, 64), (0, 64), (2, 64), (4, 3), (0, 64), (0, 64), (2, 64), (4, 3), (0, 64), (0, 64), (2, 64), (4, 7), (0, 8), (0, 8), (0, 8), (0, 6), (0, 6), (2, 7), (0, 6), (2, 48), (0, 48), (4, 4), (0, 24), (0, 24), (0, 24), (1, 24), (0, 24), (1, 24), (4, 8), (0, 20), (0, 20), (0, 20), (4, 1), (0, 4), (0, 4), (3, 24), (0, 6), (0, 6), (0, 6), (0, 6), (0, 6), (0, 6), (0, 6), (0, 6), (0, 6), (0, 6), (0, 6), (0, 6), (0, 6), (0, 6), (0, 6), (0, 6), (0, 6), (0, 6), (0, 6), (0, 6), (0, 6), (0, 6), (0, 6), (0, 6), (3, 6), (0, 6), (0, 6), (0, 6), (0, 6), (0, 6), (0, 6), (3, 5), (0, 6), (0, 6), (0, 6), (0, 6), (0, 6), (4, 6), (0, 36), (3, 2), (0, 6), (0, 6), (0, 6), (4, 11), (0, 700), (0, 14), (0, 12), (0, 18), (0, 18), (0, 16), (0, 16), (0, 16), (0, 16), (0, 12), (0, 12), (0, 12), (0, 12), (0, 12), (0, 18), (0, 6), (0, 6), (0, 128), (0, 128), (2, 7), (2, 64), (0, 23), (0, 23), (0, 23), (0, 184), (0, 184), (0, 184), (0, 138), (0, 138), (0, 4), (0, 12), (0, 6), (0, 6), (0, 24), (0, 24), (0, 24), (1, 24), (0, 24), (1, 24)]
def kd (k : Nat) : Nat × Nat := kdT.getD k (9, 0)
theorem kd_lt {k : Nat} {q : Nat × Nat} (h : kd k = q) (hq : q ≠ (9, 0)) : k < 221 := by
  rcases Nat.lt_or_ge k 221 with h1 | h1
  · exact h1
  · exact absurd (h.symm.trans (by unfold kd; simp [List.getD, List.getElem?_eq_none (show kdT.length ≤ k from h1)])) hq
/-- 0: the class' cells, 1: the reference's -/
def loW (b : Nat) : Nat := if b = 0 then 0 else 181
def hiW (b : Nat) : Nat := if b = 0 then 181 else 221
def inS (b k : Nat) : Prop := loW b ≤ k ∧ k < hiW b
def fN (ci : Nat) : Nat := match ci with
  | 0 => 17
  | 1 => 10
  | 2 => 16
  | 3 => 6
  | 4 => 8
  | 5 => 8
  | 6 => 5
  | 7 => 7
  | 8 => 4
  | 9 => 11
  | 10 => 13
  | _ => 65
/-- the kind of a field: 0 int, 1 boolean, 2 long, 3 a reference that stays, 4 one that changes -/
def ftT : List (List Nat) := [[0, 0, 0, 1, 0, 0, 2, 1, 4, 4, 0, 3, 3, 3, 3, 2, 1], [3, 0, 0, 0, 0, 0, 3, 3, 3, 3], [3, 0, 0, 3, 3, 3, 3, 3, 3, 3, 3, 3, 3, 3, 3, 3], [1, 0, 0, 3, 3, 3], [0, 0, 3, 3, 3, 3, 3, 3], [0, 0, 3, 4, 0, 3, 0, 0], [0, 3, 0, 3, 3], [3, 3, 3, 3, 3, 0, 0], [0, 3, 3, 3], [0, 0, 0, 3, 3, 3, 3, 0, 3, 0, 0], [3, 0, 4, 3, 3, 3, 1, 3, 3, 3, 3, 3, 3], [0, 3, 0, 3, 3, 3, 3, 3, 3, 3, 3, 3, 3, 3, 3, 3, 3, 3, 3, 3, 3, 0, 0, 0, 0, 0, 0, 0, 0, 0, 0, 0, 0, 0, 3, 3, 0, 3, 3, 3, 3, 3, 3, 3, 3, 1, 0, 0, 0, 0, 0, 0, 3, 0, 3, 3, 3, 0, 0, 3, 3, 3, 3, 3, 3]]
def ft (ci j : Nat) : Nat := (ftT.getD ci []).getD j 9
/-- how far behind its object the cell lies that a staying field names -/
def foT : List (List Nat) := [[0, 0, 0, 0, 0, 0, 0, 0, 0, 0, 0, 35, 36, 37, 38, 0, 0], [1, 0, 0, 0, 0, 0, 2, 3, 28, 35], [1, 0, 0, 2, 7, 8, 9, 10, 11, 12, 13, 14, 15, 16, 20, 24], [0, 0, 0, 1, 2, 3], [0, 0, 1, 2, 3, 4, 5, 6], [0, 0, 1, 0, 0, 35, 0, 0], [0, 1, 0, 2, 5], [1, 2, 3, 4, 5, 0, 0], [0, 1, 2, 3], [0, 0, 0, 1, 2, 3, 4, 0, 5, 0, 0], [1, 0, 0, 30, 66, 72, 0, 78, 84, 123, 130, 134, 175], [0, 1, 0, 2, 3, 4, 5, 6, 7, 8, 9, 10, 11, 12, 13, 14, 15, 16, 17, 18, 19, 0, 0, 0, 0, 0, 0, 0, 0, 0, 0, 0, 0, 0, 20, 21, 0, 22, 23, 24, 25, 26, 27, 28, 29, 0, 0, 0, 0, 0, 0, 0, 30, 0, 31, 32, 33, 0, 0, 34, 35, 36, 37, 38, 39]]
def fo (ci j : Nat) : Nat := (foT.getD ci []).getD j 0
theorem ko_0 {k : Nat} (h : kd k = (4, 0)) : k = 84 := (by decide +kernel : ∀ k, k < 221 → kd k = (4, 0) → k = 84) k (kd_lt h (by decide)) h
theorem ko_1 {k : Nat} (h : kd k = (4, 1)) : k = 134 := (by decide +kernel : ∀ k, k < 221 → kd k = (4, 1) → k = 134) k (kd_lt h (by decide)) h
theorem ko_2 {k : Nat} (h : kd k = (4, 2)) : k = 2 ∨ k = 37 ∨ k = 85 := (by decide +kernel : ∀ k, k < 221 → kd k = (4, 2) → k = 2 ∨ k = 37 ∨ k = 85) k (kd_lt h (by decide)) h
theorem ko_3 {k : Nat} (h : kd k = (4, 3)) : k = 18 ∨ k = 22 ∨ k = 26 ∨ k = 53 ∨ k = 57 ∨ k = 61 ∨ k = 101 ∨ k = 105 ∨ k = 109 := (by decide +kernel : ∀ k, k < 221 → kd k = (4, 3) → k = 18 ∨ k = 22 ∨ k = 26 ∨ k = 53 ∨ k = 57 ∨ k = 61 ∨ k = 101 ∨ k = 105 ∨ k = 109) k (kd_lt h (by decide)) h
theorem ko_4 {k : Nat} (h : kd k = (4, 4)) : k = 123 := (by decide +kernel : ∀ k, k < 221 → kd k = (4, 4) → k = 123) k (kd_lt h (by decide)) h
theorem ko_5 {k : Nat} (h : kd k = (4, 5)) : k = 30 := (by decide +kernel : ∀ k, k < 221 → kd k = (4, 5) → k = 30) k (kd_lt h (by decide)) h
theorem ko_6 {k : Nat} (h : kd k = (4, 6)) : k = 175 := (by decide +kernel : ∀ k, k < 221 → kd k = (4, 6) → k = 175) k (kd_lt h (by decide)) h
theorem ko_7 {k : Nat} (h : kd k = (4, 7)) : k = 66 ∨ k = 72 ∨ k = 78 ∨ k = 113 := (by decide +kernel : ∀ k, k < 221 → kd k = (4, 7) → k = 66 ∨ k = 72 ∨ k = 78 ∨ k = 113) k (kd_lt h (by decide)) h
theorem ko_8 {k : Nat} (h : kd k = (4, 8)) : k = 130 := (by decide +kernel : ∀ k, k < 221 → kd k = (4, 8) → k = 130) k (kd_lt h (by decide)) h
theorem ko_9 {k : Nat} (h : kd k = (4, 9)) : k = 31 := (by decide +kernel : ∀ k, k < 221 → kd k = (4, 9) → k = 31) k (kd_lt h (by decide)) h
theorem ko_10 {k : Nat} (h : kd k = (4, 10)) : k = 0 := (by decide +kernel : ∀ k, k < 221 → kd k = (4, 10) → k = 0) k (kd_lt h (by decide)) h
theorem ko_11 {k : Nat} (h : kd k = (4, 11)) : k = 181 := (by decide +kernel : ∀ k, k < 221 → kd k = (4, 11) → k = 181) k (kd_lt h (by decide)) h
theorem ff_0_11 {k : Nat} (h : kd k = (4, 0)) : kd (k + 35) = (2, 7) ∧ inS 0 (k + 35) := by have e := ko_0 h; subst e <;> exact ⟨by decide +kernel, by decide, by decide⟩
theorem ff_0_12 {k : Nat} (h : kd k = (4, 0)) : kd (k + 36) = (0, 6) ∧ inS 0 (k + 36) := by have e := ko_0 h; subst e <;> exact ⟨by decide +kernel, by decide, by decide⟩
theorem ff_0_13 {k : Nat} (h : kd k = (4, 0)) : kd (k + 37) = (2, 48) ∧ inS 0 (k + 37) := by have e := ko_0 h; subst e <;> exact ⟨by decide +kernel, by decide, by decide⟩
theorem ff_0_14 {k : Nat} (h : kd k = (4, 0)) : kd (k + 38) = (0, 48) ∧ inS 0 (k + 38) := by have e := ko_0 h; subst e <;> exact ⟨by decide +kernel, by decide, by decide⟩
theorem ff_1_0 {k : Nat} (h : kd k = (4, 1)) : kd (k + 1) = (0, 4) ∧ inS 0 (k + 1) := by have e := ko_1 h; subst e <;> exact ⟨by decide +kernel, by decide, by decide⟩
theorem ff_1_6 {k : Nat} (h : kd k = (4, 1)) : kd (k + 2) = (0, 4) ∧ inS 0 (k + 2) := by have e := ko_1 h; subst e <;> exact ⟨by decide +kernel, by decide, by decide⟩
theorem ff_1_7 {k : Nat} (h : kd k = (4, 1)) : kd (k + 3) = (3, 24) ∧ inS 0 (k + 3) := by have e := ko_1 h; subst e <;> exact ⟨by decide +kernel, by decide, by decide⟩
theorem ff_1_8 {k : Nat} (h : kd k = (4, 1)) : kd (k + 28) = (3, 6) ∧ inS 0 (k + 28) := by have e := ko_1 h; subst e <;> exact ⟨by decide +kernel, by decide, by decide⟩
theorem ff_1_9 {k : Nat} (h : kd k = (4, 1)) : kd (k + 35) = (3, 5) ∧ inS 0 (k + 35) := by have e := ko_1 h; subst e <;> exact ⟨by decide +kernel, by decide, by decide⟩
theorem ff_2_0 {k : Nat} (h : kd k = (4, 2)) : kd (k + 1) = (0, 6) ∧ inS 0 (k + 1) := by rcases ko_2 h with rfl | rfl | rfl <;> exact ⟨by decide +kernel, by decide, by decide⟩
theorem ff_2_3 {k : Nat} (h : kd k = (4, 2)) : kd (k + 2) = (3, 4) ∧ inS 0 (k + 2) := by rcases ko_2 h with rfl | rfl | rfl <;> exact ⟨by decide +kernel, by decide, by decide⟩
theorem ff_2_4 {k : Nat} (h : kd k = (4, 2)) : kd (k + 7) = (0, 6) ∧ inS 0 (k + 7) := by rcases ko_2 h with rfl | rfl | rfl <;> exact ⟨by decide +kernel, by decide, by decide⟩
theorem ff_2_5 {k : Nat} (h : kd k = (4, 2)) : kd (k + 8) = (0, 8) ∧ inS 0 (k + 8) := by rcases ko_2 h with rfl | rfl | rfl <;> exact ⟨by decide +kernel, by decide, by decide⟩
theorem ff_2_6 {k : Nat} (h : kd k = (4, 2)) : kd (k + 9) = (0, 8) ∧ inS 0 (k + 9) := by rcases ko_2 h with rfl | rfl | rfl <;> exact ⟨by decide +kernel, by decide, by decide⟩
theorem ff_2_7 {k : Nat} (h : kd k = (4, 2)) : kd (k + 10) = (0, 8) ∧ inS 0 (k + 10) := by rcases ko_2 h with rfl | rfl | rfl <;> exact ⟨by decide +kernel, by decide, by decide⟩
theorem ff_2_8 {k : Nat} (h : kd k = (4, 2)) : kd (k + 11) = (0, 6) ∧ inS 0 (k + 11) := by rcases ko_2 h with rfl | rfl | rfl <;> exact ⟨by decide +kernel, by decide, by decide⟩
theorem ff_2_9 {k : Nat} (h : kd k = (4, 2)) : kd (k + 12) = (0, 6) ∧ inS 0 (k + 12) := by rcases ko_2 h with rfl | rfl | rfl <;> exact ⟨by decide +kernel, by decide, by decide⟩
theorem ff_2_10 {k : Nat} (h : kd k = (4, 2)) : kd (k + 13) = (0, 6) ∧ inS 0 (k + 13) := by rcases ko_2 h with rfl | rfl | rfl <;> exact ⟨by decide +kernel, by decide, by decide⟩
theorem ff_2_11 {k : Nat} (h : kd k = (4, 2)) : kd (k + 14) = (0, 6) ∧ inS 0 (k + 14) := by rcases ko_2 h with rfl | rfl | rfl <;> exact ⟨by decide +kernel, by decide, by decide⟩
theorem ff_2_12 {k : Nat} (h : kd k = (4, 2)) : kd (k + 15) = (0, 9) ∧ inS 0 (k + 15) := by rcases ko_2 h with rfl | rfl | rfl <;> exact ⟨by decide +kernel, by decide, by decide⟩
theorem ff_2_13 {k : Nat} (h : kd k = (4, 2)) : kd (k + 16) = (4, 3) ∧ inS 0 (k + 16) := by rcases ko_2 h with rfl | rfl | rfl <;> exact ⟨by decide +kernel, by decide, by decide⟩
theorem ff_2_14 {k : Nat} (h : kd k = (4, 2)) : kd (k + 20) = (4, 3) ∧ inS 0 (k + 20) := by rcases ko_2 h with rfl | rfl | rfl <;> exact ⟨by decide +kernel, by decide, by decide⟩
theorem ff_2_15 {k : Nat} (h : kd k = (4, 2)) : kd (k + 24) = (4, 3) ∧ inS 0 (k + 24) := by rcases ko_2 h with rfl | rfl | rfl <;> exact ⟨by decide +kernel, by decide, by decide⟩
theorem ff_3_3 {k : Nat} (h : kd k = (4, 3)) : kd (k + 1) = (0, 64) ∧ inS 0 (k + 1) := by rcases ko_3 h with rfl | rfl | rfl | rfl | rfl | rfl | rfl | rfl | rfl <;> exact ⟨by decide +kernel, by decide, by decide⟩
theorem ff_3_4 {k : Nat} (h : kd k = (4, 3)) : kd (k + 2) = (0, 64) ∧ inS 0 (k + 2) := by rcases ko_3 h with rfl | rfl | rfl | rfl | rfl | rfl | rfl | rfl | rfl <;> exact ⟨by decide +kernel, by decide, by decide⟩
theorem ff_3_5 {k : Nat} (h : kd k = (4, 3)) : kd (k + 3) = (2, 64) ∧ inS 0 (k + 3) := by rcases ko_3 h with rfl | rfl | rfl | rfl | rfl | rfl | rfl | rfl | rfl <;> exact ⟨by decide +kernel, by decide, by decide⟩
theorem ff_4_2 {k : Nat} (h : kd k = (4, 4)) : kd (k + 1) = (0, 24) ∧ inS 0 (k + 1) := by have e := ko_4 h; subst e <;> exact ⟨by decide +kernel, by decide, by decide⟩
theorem ff_4_3 {k : Nat} (h : kd k = (4, 4)) : kd (k + 2) = (0, 24) ∧ inS 0 (k + 2) := by have e := ko_4 h; subst e <;> exact ⟨by decide +kernel, by decide, by decide⟩
theorem ff_4_4 {k : Nat} (h : kd k = (4, 4)) : kd (k + 3) = (0, 24) ∧ inS 0 (k + 3) := by have e := ko_4 h; subst e <;> exact ⟨by decide +kernel, by decide, by decide⟩
theorem ff_4_5 {k : Nat} (h : kd k = (4, 4)) : kd (k + 4) = (1, 24) ∧ inS 0 (k + 4) := by have e := ko_4 h; subst e <;> exact ⟨by decide +kernel, by decide, by decide⟩
theorem ff_4_6 {k : Nat} (h : kd k = (4, 4)) : kd (k + 5) = (0, 24) ∧ inS 0 (k + 5) := by have e := ko_4 h; subst e <;> exact ⟨by decide +kernel, by decide, by decide⟩
theorem ff_4_7 {k : Nat} (h : kd k = (4, 4)) : kd (k + 6) = (1, 24) ∧ inS 0 (k + 6) := by have e := ko_4 h; subst e <;> exact ⟨by decide +kernel, by decide, by decide⟩
theorem ff_5_2 {k : Nat} (h : kd k = (4, 5)) : kd (k + 1) = (4, 9) ∧ inS 0 (k + 1) := by have e := ko_5 h; subst e <;> exact ⟨by decide +kernel, by decide, by decide⟩
theorem ff_5_5 {k : Nat} (h : kd k = (4, 5)) : kd (k + 35) = (0, 72) ∧ inS 0 (k + 35) := by have e := ko_5 h; subst e <;> exact ⟨by decide +kernel, by decide, by decide⟩
theorem ff_6_1 {k : Nat} (h : kd k = (4, 6)) : kd (k + 1) = (0, 36) ∧ inS 0 (k + 1) := by have e := ko_6 h; subst e <;> exact ⟨by decide +kernel, by decide, by decide⟩
theorem ff_6_3 {k : Nat} (h : kd k = (4, 6)) : kd (k + 2) = (3, 2) ∧ inS 0 (k + 2) := by have e := ko_6 h; subst e <;> exact ⟨by decide +kernel, by decide, by decide⟩
theorem ff_6_4 {k : Nat} (h : kd k = (4, 6)) : kd (k + 5) = (0, 6) ∧ inS 0 (k + 5) := by have e := ko_6 h; subst e <;> exact ⟨by decide +kernel, by decide, by decide⟩
theorem ff_7_0 {k : Nat} (h : kd k = (4, 7)) : kd (k + 1) = (0, 8) ∧ inS 0 (k + 1) := by rcases ko_7 h with rfl | rfl | rfl | rfl <;> exact ⟨by decide +kernel, by decide, by decide⟩
theorem ff_7_1 {k : Nat} (h : kd k = (4, 7)) : kd (k + 2) = (0, 8) ∧ inS 0 (k + 2) := by rcases ko_7 h with rfl | rfl | rfl | rfl <;> exact ⟨by decide +kernel, by decide, by decide⟩
theorem ff_7_2 {k : Nat} (h : kd k = (4, 7)) : kd (k + 3) = (0, 8) ∧ inS 0 (k + 3) := by rcases ko_7 h with rfl | rfl | rfl | rfl <;> exact ⟨by decide +kernel, by decide, by decide⟩
theorem ff_7_3 {k : Nat} (h : kd k = (4, 7)) : kd (k + 4) = (0, 6) ∧ inS 0 (k + 4) := by rcases ko_7 h with rfl | rfl | rfl | rfl <;> exact ⟨by decide +kernel, by decide, by decide⟩
theorem ff_7_4 {k : Nat} (h : kd k = (4, 7)) : kd (k + 5) = (0, 6) ∧ inS 0 (k + 5) := by rcases ko_7 h with rfl | rfl | rfl | rfl <;> exact ⟨by decide +kernel, by decide, by decide⟩
theorem ff_8_1 {k : Nat} (h : kd k = (4, 8)) : kd (k + 1) = (0, 20) ∧ inS 0 (k + 1) := by have e := ko_8 h; subst e <;> exact ⟨by decide +kernel, by decide, by decide⟩
theorem ff_8_2 {k : Nat} (h : kd k = (4, 8)) : kd (k + 2) = (0, 20) ∧ inS 0 (k + 2) := by have e := ko_8 h; subst e <;> exact ⟨by decide +kernel, by decide, by decide⟩
theorem ff_8_3 {k : Nat} (h : kd k = (4, 8)) : kd (k + 3) = (0, 20) ∧ inS 0 (k + 3) := by have e := ko_8 h; subst e <;> exact ⟨by decide +kernel, by decide, by decide⟩
theorem ff_9_3 {k : Nat} (h : kd k = (4, 9)) : kd (k + 1) = (0, 20) ∧ inS 0 (k + 1) := by have e := ko_9 h; subst e <;> exact ⟨by decide +kernel, by decide, by decide⟩
theorem ff_9_4 {k : Nat} (h : kd k = (4, 9)) : kd (k + 2) = (0, 701) ∧ inS 0 (k + 2) := by have e := ko_9 h; subst e <;> exact ⟨by decide +kernel, by decide, by decide⟩
theorem ff_9_5 {k : Nat} (h : kd k = (4, 9)) : kd (k + 3) = (0, 701) ∧ inS 0 (k + 3) := by have e := ko_9 h; subst e <;> exact ⟨by decide +kernel, by decide, by decide⟩
theorem ff_9_6 {k : Nat} (h : kd k = (4, 9)) : kd (k + 4) = (0, 701) ∧ inS 0 (k + 4) := by have e := ko_9 h; subst e <;> exact ⟨by decide +kernel, by decide, by decide⟩
theorem ff_9_8 {k : Nat} (h : kd k = (4, 9)) : kd (k + 5) = (0, 700) ∧ inS 0 (k + 5) := by have e := ko_9 h; subst e <;> exact ⟨by decide +kernel, by decide, by decide⟩
theorem ff_10_0 {k : Nat} (h : kd k = (4, 10)) : kd (k + 1) = (0, 700) ∧ inS 0 (k + 1) := by have e := ko_10 h; subst e <;> exact ⟨by decide +kernel, by decide, by decide⟩
theorem ff_10_3 {k : Nat} (h : kd k = (4, 10)) : kd (k + 30) = (4, 5) ∧ inS 0 (k + 30) := by have e := ko_10 h; subst e <;> exact ⟨by decide +kernel, by decide, by decide⟩
theorem ff_10_4 {k : Nat} (h : kd k = (4, 10)) : kd (k + 66) = (4, 7) ∧ inS 0 (k + 66) := by have e := ko_10 h; subst e <;> exact ⟨by decide +kernel, by decide, by decide⟩
theorem ff_10_5 {k : Nat} (h : kd k = (4, 10)) : kd (k + 72) = (4, 7) ∧ inS 0 (k + 72) := by have e := ko_10 h; subst e <;> exact ⟨by decide +kernel, by decide, by decide⟩
theorem ff_10_7 {k : Nat} (h : kd k = (4, 10)) : kd (k + 78) = (4, 7) ∧ inS 0 (k + 78) := by have e := ko_10 h; subst e <;> exact ⟨by decide +kernel, by decide, by decide⟩
theorem ff_10_8 {k : Nat} (h : kd k = (4, 10)) : kd (k + 84) = (4, 0) ∧ inS 0 (k + 84) := by have e := ko_10 h; subst e <;> exact ⟨by decide +kernel, by decide, by decide⟩
theorem ff_10_9 {k : Nat} (h : kd k = (4, 10)) : kd (k + 123) = (4, 4) ∧ inS 0 (k + 123) := by have e := ko_10 h; subst e <;> exact ⟨by decide +kernel, by decide, by decide⟩
theorem ff_10_10 {k : Nat} (h : kd k = (4, 10)) : kd (k + 130) = (4, 8) ∧ inS 0 (k + 130) := by have e := ko_10 h; subst e <;> exact ⟨by decide +kernel, by decide, by decide⟩
theorem ff_10_11 {k : Nat} (h : kd k = (4, 10)) : kd (k + 134) = (4, 1) ∧ inS 0 (k + 134) := by have e := ko_10 h; subst e <;> exact ⟨by decide +kernel, by decide, by decide⟩
theorem ff_10_12 {k : Nat} (h : kd k = (4, 10)) : kd (k + 175) = (4, 6) ∧ inS 0 (k + 175) := by have e := ko_10 h; subst e <;> exact ⟨by decide +kernel, by decide, by decide⟩
theorem ff_11_1 {k : Nat} (h : kd k = (4, 11)) : kd (k + 1) = (0, 700) ∧ inS 1 (k + 1) := by have e := ko_11 h; subst e <;> exact ⟨by decide +kernel, by decide, by decide⟩
theorem ff_11_3 {k : Nat} (h : kd k = (4, 11)) : kd (k + 2) = (0, 14) ∧ inS 1 (k + 2) := by have e := ko_11 h; subst e <;> exact ⟨by decide +kernel, by decide, by decide⟩
theorem ff_11_4 {k : Nat} (h : kd k = (4, 11)) : kd (k + 3) = (0, 12) ∧ inS 1 (k + 3) := by have e := ko_11 h; subst e <;> exact ⟨by decide +kernel, by decide, by decide⟩
theorem ff_11_5 {k : Nat} (h : kd k = (4, 11)) : kd (k + 4) = (0, 18) ∧ inS 1 (k + 4) := by have e := ko_11 h; subst e <;> exact ⟨by decide +kernel, by decide, by decide⟩
theorem ff_11_6 {k : Nat} (h : kd k = (4, 11)) : kd (k + 5) = (0, 18) ∧ inS 1 (k + 5) := by have e := ko_11 h; subst e <;> exact ⟨by decide +kernel, by decide, by decide⟩
theorem ff_11_7 {k : Nat} (h : kd k = (4, 11)) : kd (k + 6) = (0, 16) ∧ inS 1 (k + 6) := by have e := ko_11 h; subst e <;> exact ⟨by decide +kernel, by decide, by decide⟩
theorem ff_11_8 {k : Nat} (h : kd k = (4, 11)) : kd (k + 7) = (0, 16) ∧ inS 1 (k + 7) := by have e := ko_11 h; subst e <;> exact ⟨by decide +kernel, by decide, by decide⟩
theorem ff_11_9 {k : Nat} (h : kd k = (4, 11)) : kd (k + 8) = (0, 16) ∧ inS 1 (k + 8) := by have e := ko_11 h; subst e <;> exact ⟨by decide +kernel, by decide, by decide⟩
theorem ff_11_10 {k : Nat} (h : kd k = (4, 11)) : kd (k + 9) = (0, 16) ∧ inS 1 (k + 9) := by have e := ko_11 h; subst e <;> exact ⟨by decide +kernel, by decide, by decide⟩
theorem ff_11_11 {k : Nat} (h : kd k = (4, 11)) : kd (k + 10) = (0, 12) ∧ inS 1 (k + 10) := by have e := ko_11 h; subst e <;> exact ⟨by decide +kernel, by decide, by decide⟩
theorem ff_11_12 {k : Nat} (h : kd k = (4, 11)) : kd (k + 11) = (0, 12) ∧ inS 1 (k + 11) := by have e := ko_11 h; subst e <;> exact ⟨by decide +kernel, by decide, by decide⟩
theorem ff_11_13 {k : Nat} (h : kd k = (4, 11)) : kd (k + 12) = (0, 12) ∧ inS 1 (k + 12) := by have e := ko_11 h; subst e <;> exact ⟨by decide +kernel, by decide, by decide⟩
theorem ff_11_14 {k : Nat} (h : kd k = (4, 11)) : kd (k + 13) = (0, 12) ∧ inS 1 (k + 13) := by have e := ko_11 h; subst e <;> exact ⟨by decide +kernel, by decide, by decide⟩
theorem ff_11_15 {k : Nat} (h : kd k = (4, 11)) : kd (k + 14) = (0, 12) ∧ inS 1 (k + 14) := by have e := ko_11 h; subst e <;> exact ⟨by decide +kernel, by decide, by decide⟩
theorem ff_11_16 {k : Nat} (h : kd k = (4, 11)) : kd (k + 15) = (0, 18) ∧ inS 1 (k + 15) := by have e := ko_11 h; subst e <;> exact ⟨by decide +kernel, by decide, by decide⟩
theorem ff_11_17 {k : Nat} (h : kd k = (4, 11)) : kd (k + 16) = (0, 6) ∧ inS 1 (k + 16) := by have e := ko_11 h; subst e <;> exact ⟨by decide +kernel, by decide, by decide⟩
theorem ff_11_18 {k : Nat} (h : kd k = (4, 11)) : kd (k + 17) = (0, 6) ∧ inS 1 (k + 17) := by have e := ko_11 h; subst e <;> exact ⟨by decide +kernel, by decide, by decide⟩
theorem ff_11_19 {k : Nat} (h : kd k = (4, 11)) : kd (k + 18) = (0, 128) ∧ inS 1 (k + 18) := by have e := ko_11 h; subst e <;> exact ⟨by decide +kernel, by decide, by decide⟩
theorem ff_11_20 {k : Nat} (h : kd k = (4, 11)) : kd (k + 19) = (0, 128) ∧ inS 1 (k + 19) := by have e := ko_11 h; subst e <;> exact ⟨by decide +kernel, by decide, by decide⟩
theorem ff_11_34 {k : Nat} (h : kd k = (4, 11)) : kd (k + 20) = (2, 7) ∧ inS 1 (k + 20) := by have e := ko_11 h; subst e <;> exact ⟨by decide +kernel, by decide, by decide⟩
theorem ff_11_35 {k : Nat} (h : kd k = (4, 11)) : kd (k + 21) = (2, 64) ∧ inS 1 (k + 21) := by have e := ko_11 h; subst e <;> exact ⟨by decide +kernel, by decide, by decide⟩
theorem ff_11_37 {k : Nat} (h : kd k = (4, 11)) : kd (k + 22) = (0, 23) ∧ inS 1 (k + 22) := by have e := ko_11 h; subst e <;> exact ⟨by decide +kernel, by decide, by decide⟩
theorem ff_11_38 {k : Nat} (h : kd k = (4, 11)) : kd (k + 23) = (0, 23) ∧ inS 1 (k + 23) := by have e := ko_11 h; subst e <;> exact ⟨by decide +kernel, by decide, by decide⟩
theorem ff_11_39 {k : Nat} (h : kd k = (4, 11)) : kd (k + 24) = (0, 23) ∧ inS 1 (k + 24) := by have e := ko_11 h; subst e <;> exact ⟨by decide +kernel, by decide, by decide⟩
theorem ff_11_40 {k : Nat} (h : kd k = (4, 11)) : kd (k + 25) = (0, 184) ∧ inS 1 (k + 25) := by have e := ko_11 h; subst e <;> exact ⟨by decide +kernel, by decide, by decide⟩
theorem ff_11_41 {k : Nat} (h : kd k = (4, 11)) : kd (k + 26) = (0, 184) ∧ inS 1 (k + 26) := by have e := ko_11 h; subst e <;> exact ⟨by decide +kernel, by decide, by decide⟩
theorem ff_11_42 {k : Nat} (h : kd k = (4, 11)) : kd (k + 27) = (0, 184) ∧ inS 1 (k + 27) := by have e := ko_11 h; subst e <;> exact ⟨by decide +kernel, by decide, by decide⟩
theorem ff_11_43 {k : Nat} (h : kd k = (4, 11)) : kd (k + 28) = (0, 138) ∧ inS 1 (k + 28) := by have e := ko_11 h; subst e <;> exact ⟨by decide +kernel, by decide, by decide⟩
theorem ff_11_44 {k : Nat} (h : kd k = (4, 11)) : kd (k + 29) = (0, 138) ∧ inS 1 (k + 29) := by have e := ko_11 h; subst e <;> exact ⟨by decide +kernel, by decide, by decide⟩
theorem ff_11_52 {k : Nat} (h : kd k = (4, 11)) : kd (k + 30) = (0, 4) ∧ inS 1 (k + 30) := by have e := ko_11 h; subst e <;> exact ⟨by decide +kernel, by decide, by decide⟩
theorem ff_11_54 {k : Nat} (h : kd k = (4, 11)) : kd (k + 31) = (0, 12) ∧ inS 1 (k + 31) := by have e := ko_11 h; subst e <;> exact ⟨by decide +kernel, by decide, by decide⟩
theorem ff_11_55 {k : Nat} (h : kd k = (4, 11)) : kd (k + 32) = (0, 6) ∧ inS 1 (k + 32) := by have e := ko_11 h; subst e <;> exact ⟨by decide +kernel, by decide, by decide⟩
theorem ff_11_56 {k : Nat} (h : kd k = (4, 11)) : kd (k + 33) = (0, 6) ∧ inS 1 (k + 33) := by have e := ko_11 h; subst e <;> exact ⟨by decide +kernel, by decide, by decide⟩
theorem ff_11_59 {k : Nat} (h : kd k = (4, 11)) : kd (k + 34) = (0, 24) ∧ inS 1 (k + 34) := by have e := ko_11 h; subst e <;> exact ⟨by decide +kernel, by decide, by decide⟩
theorem ff_11_60 {k : Nat} (h : kd k = (4, 11)) : kd (k + 35) = (0, 24) ∧ inS 1 (k + 35) := by have e := ko_11 h; subst e <;> exact ⟨by decide +kernel, by decide, by decide⟩
theorem ff_11_61 {k : Nat} (h : kd k = (4, 11)) : kd (k + 36) = (0, 24) ∧ inS 1 (k + 36) := by have e := ko_11 h; subst e <;> exact ⟨by decide +kernel, by decide, by decide⟩
theorem ff_11_62 {k : Nat} (h : kd k = (4, 11)) : kd (k + 37) = (1, 24) ∧ inS 1 (k + 37) := by have e := ko_11 h; subst e <;> exact ⟨by decide +kernel, by decide, by decide⟩
theorem ff_11_63 {k : Nat} (h : kd k = (4, 11)) : kd (k + 38) = (0, 24) ∧ inS 1 (k + 38) := by have e := ko_11 h; subst e <;> exact ⟨by decide +kernel, by decide, by decide⟩
theorem ff_11_64 {k : Nat} (h : kd k = (4, 11)) : kd (k + 39) = (1, 24) ∧ inS 1 (k + 39) := by have e := ko_11 h; subst e <;> exact ⟨by decide +kernel, by decide, by decide⟩
theorem fi_0 {k : Nat} (h : kd k = (4, 0)) : inS 0 k := by have e := ko_0 h; subst e <;> exact ⟨by decide, by decide⟩
theorem fi_1 {k : Nat} (h : kd k = (4, 1)) : inS 0 k := by have e := ko_1 h; subst e <;> exact ⟨by decide, by decide⟩
theorem fi_2 {k : Nat} (h : kd k = (4, 2)) : inS 0 k := by rcases ko_2 h with rfl | rfl | rfl <;> exact ⟨by decide, by decide⟩
theorem fi_3 {k : Nat} (h : kd k = (4, 3)) : inS 0 k := by rcases ko_3 h with rfl | rfl | rfl | rfl | rfl | rfl | rfl | rfl | rfl <;> exact ⟨by decide, by decide⟩
theorem fi_4 {k : Nat} (h : kd k = (4, 4)) : inS 0 k := by have e := ko_4 h; subst e <;> exact ⟨by decide, by decide⟩
theorem fi_5 {k : Nat} (h : kd k = (4, 5)) : inS 0 k := by have e := ko_5 h; subst e <;> exact ⟨by decide, by decide⟩
theorem fi_6 {k : Nat} (h : kd k = (4, 6)) : inS 0 k := by have e := ko_6 h; subst e <;> exact ⟨by decide, by decide⟩
theorem fi_7 {k : Nat} (h : kd k = (4, 7)) : inS 0 k := by rcases ko_7 h with rfl | rfl | rfl | rfl <;> exact ⟨by decide, by decide⟩
theorem fi_8 {k : Nat} (h : kd k = (4, 8)) : inS 0 k := by have e := ko_8 h; subst e <;> exact ⟨by decide, by decide⟩
theorem fi_9 {k : Nat} (h : kd k = (4, 9)) : inS 0 k := by have e := ko_9 h; subst e <;> exact ⟨by decide, by decide⟩
theorem fi_10 {k : Nat} (h : kd k = (4, 10)) : inS 0 k := by have e := ko_10 h; subst e <;> exact ⟨by decide, by decide⟩
theorem fi_11 {k : Nat} (h : kd k = (4, 11)) : inS 1 k := by have e := ko_11 h; subst e <;> exact ⟨by decide, by decide⟩
theorem f2_1_7 {k : Nat} (h : kd k = (4, 1)) : (kd (k + 3 + 1)).2 = 6 := by have e := ko_1 h; subst e <;> decide +kernel
theorem f2_1_8 {k : Nat} (h : kd k = (4, 1)) : (kd (k + 28 + 1)).2 = 6 := by have e := ko_1 h; subst e <;> decide +kernel
theorem f2_1_9 {k : Nat} (h : kd k = (4, 1)) : (kd (k + 35 + 1)).2 = 6 := by have e := ko_1 h; subst e <;> decide +kernel
theorem f2_2_3 {k : Nat} (h : kd k = (4, 2)) : (kd (k + 2 + 1)).2 = 8 := by rcases ko_2 h with rfl | rfl | rfl <;> decide +kernel
theorem f2_6_3 {k : Nat} (h : kd k = (4, 6)) : (kd (k + 2 + 1)).2 = 6 := by have e := ko_6 h; subst e <;> decide +kernel
theorem k3_all {k n : Nat} (h : kd k = (3, n)) : (k = 4 ∧ n = 4) ∨ (k = 39 ∧ n = 4) ∨ (k = 87 ∧ n = 4) ∨ (k = 137 ∧ n = 24) ∨ (k = 162 ∧ n = 6) ∨ (k = 169 ∧ n = 5) ∨ (k = 177 ∧ n = 2) := by
  have hk := kd_lt h (by intro q; cases q)
  have h2 := (by decide +kernel : ∀ k, k < 221 → (kd k).1 = 3 → (k = 4 ∧ (kd k).2 = 4) ∨ (k = 39 ∧ (kd k).2 = 4) ∨ (k = 87 ∧ (kd k).2 = 4) ∨ (k = 137 ∧ (kd k).2 = 24) ∨ (k = 162 ∧ (kd k).2 = 6) ∨ (k = 169 ∧ (kd k).2 = 5) ∨ (k = 177 ∧ (kd k).2 = 2)) k hk (by rw [h])
  rw [h] at h2
  exact h2
theorem fr_row {k i : Nat} {n : Nat} (h : kd k = (3, n)) (hi : i < n) : kd (k + 1 + i) = (0, (kd (k + 1)).2) ∧ inS 0 (k + 1 + i) := by
  unfold inS
  rcases k3_all h with ⟨rfl, rfl⟩ | ⟨rfl, rfl⟩ | ⟨rfl, rfl⟩ | ⟨rfl, rfl⟩ | ⟨rfl, rfl⟩ | ⟨rfl, rfl⟩ | ⟨rfl, rfl⟩ <;> revert i <;> decide +kernel
