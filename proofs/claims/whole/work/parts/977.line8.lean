/-! what a line adds to both houses -/
def cup (c : Nat → Nat) (w v : Nat) : Nat → Nat := fun x => if x = w then v else c x
section Grow
variable {μ ν μ' ν' : fMem} {y : Nat} {c : Nat → Nat} {D : Nat → Nat → Bool} {L : Nat → List (Int32 × Int32)} {n m q : Nat}
theorem JF0.of (H : JF0 μ y ν n) (e1 : ∀ j, j < n → μ'.1 (y + 3) j = μ.1 (y + 3) j) (e2 : ∀ j, j < n → ν'.1 184 (6 + j) = ν.1 184 (6 + j)) : JF0 μ' y ν' n := fun j hj => by rw [e1 j hj, e2 j hj]; exact H j hj
theorem EVv.wide {M M' : Nat} {a c : Int32} (h : EVv M a c) (hM : M ≤ M') : EVv M' a c := by
  obtain ⟨v, h1, h2, h3⟩ := h
  exact ⟨v, by omega, h2, h3⟩
theorem JF2.of {m' : Nat} (H : JF2 μ y ν m n) (hm : m ≤ m') (e1 : ∀ a j, y + 5 ≤ a → a ≤ y + 10 → ¬ a = y + 6 → ¬ a = y + 7 → j < n → μ'.1 a j = μ.1 a j) (e2 : ∀ a j, 187 ≤ a → a ≤ 190 → j < n → ν'.1 a (8 + j) = ν.1 a (8 + j)) : JF2 μ' y ν' m' n := fun j hj => by
  rw [e1 _ j (by omega) (by omega) (by omega) (by omega) hj, e1 (y + 8) j (by omega) (by omega) (by omega) (by omega) hj, e1 (y + 9) j (by omega) (by omega) (by omega) (by omega) hj, e1 (y + 10) j (by omega) (by omega) (by omega) (by omega) hj, e2 _ j (by omega) (by omega) hj, e2 188 j (by omega) (by omega) hj, e2 189 j (by omega) (by omega) hj, e2 190 j (by omega) (by omega) hj]
  have := H j hj
  exact ⟨this.1, this.2.1.wide hm, this.2.2⟩
theorem JF3.of (H : JF3 μ y ν n) (e1 : ∀ a j, (a = y + 6 ∨ (y + 11 ≤ a ∧ a ≤ y + 14)) → j < n → μ'.1 a j = μ.1 a j) (e2 : ∀ a j, 191 ≤ a → a ≤ 195 → j < n → ν'.1 a (6 + j) = ν.1 a (6 + j)) : JF3 μ' y ν' n := fun j hj => by
  rw [e1 _ j (by omega) hj, e1 (y + 11) j (by omega) hj, e1 (y + 12) j (by omega) hj, e1 (y + 13) j (by omega) hj, e1 (y + 14) j (by omega) hj, e2 _ j (by omega) (by omega) hj, e2 192 j (by omega) (by omega) hj, e2 193 j (by omega) (by omega) hj, e2 194 j (by omega) (by omega) hj, e2 195 j (by omega) (by omega) hj]
  exact H j hj
theorem JF4.of (H : JF4 μ y ν n) (e1 : ∀ j, j < n → μ'.1 (y + 15) j = μ.1 (y + 15) j) (e2 : ∀ j, j < n → ν'.1 196 (9 + j) = ν.1 196 (9 + j)) : JF4 μ' y ν' n := fun j hj => by rw [e1 j hj, e2 j hj]; exact H j hj
theorem JD.of {m' : Nat} (H : JD μ y ν m n D) (hm : m ≤ m') (e1 : ∀ j, j < 6 → μ'.1 (y + 7) j = μ.1 (y + 7) j) (e2 : ∀ a j, 185 ≤ a → a ≤ 186 → j < n → ν'.1 a (9 + j) = ν.1 a (9 + j)) : JD μ' y ν' m' n D := by
  obtain ⟨h1, h2, h3, h4, h5⟩ := H
  refine ⟨h1, h2, fun a b h => ⟨by have := h3 a b h; omega, by have := h3 a b h; omega⟩, fun a b ha hb => by rw [e1 a ha]; exact h4 a b ha hb, fun a b ha hb => ?_⟩
  rw [h5 a b ha hb]
  constructor
  · rintro ⟨i, hi, z⟩
    exact ⟨i, hi, by rw [e2 185 i (by omega) (by omega) hi, e2 186 i (by omega) (by omega) hi]; exact z⟩
  · rintro ⟨i, hi, z⟩
    exact ⟨i, hi, by rw [e2 185 i (by omega) (by omega) hi, e2 186 i (by omega) (by omega) hi] at z; exact z⟩
theorem JL1.of {q' l : Nat} {M : List (Int32 × Int32)} (H : JL1 μ y ν q l M) (hq : q ≤ q') (e1 : ∀ a j, y + 16 + 4 * l ≤ a → a ≤ y + 18 + 4 * l → ¬ (a = y + 16 + 4 * l ∧ j = 0) → μ'.1 a j = μ.1 a j) (e2 : ν'.1 197 (3 + l) = ν.1 197 (3 + l) ∧ ν'.1 198 (3 + l) = ν.1 198 (3 + l)) (e3 : ∀ a j, 199 ≤ a → a ≤ 200 → j < 64 + q → ν'.1 a j = ν.1 a j) : JL1 μ' y ν' q' l M := by
  obtain ⟨h1, h2, a, h3, h4, h5, h6⟩ := H
  refine ⟨h1, h2.of' (e1 _ _ (by omega) (by omega) (by omega)) (fun k j _ _ => e1 _ _ (by omega) (by omega) (by omega)), a, by rw [e2.1]; exact h3, by rw [e2.2]; exact h4, by omega, fun i hi => ?_⟩
  obtain ⟨p, p1, p2, p3⟩ := h6 i hi
  exact ⟨p, p1, by rw [e3 _ _ (by omega) (by omega) (by omega)]; exact p2, by rw [e3 _ _ (by omega) (by omega) (by omega)]; exact p3⟩
theorem JLw.of (H : JLw μ y ν q L) (e1 : ∀ a j, y + 16 ≤ a → a ≤ y + 26 → ¬ ((a = y + 16 ∨ a = y + 20 ∨ a = y + 24) ∧ j = 0) → μ'.1 a j = μ.1 a j) (e2 : ∀ a j, 197 ≤ a → a ≤ 200 → ν'.1 a j = ν.1 a j) : JLw μ' y ν' q L := by
  refine ⟨fun l hl => (H.1 l hl).of (Nat.le_refl _) (fun a j x z w => e1 a j (by omega) (by omega) (by omega)) ⟨e2 _ _ (by omega) (by omega), e2 _ _ (by omega) (by omega)⟩ (fun a j x z _ => e2 _ _ (by omega) (by omega)), ?_⟩
  have := H.2
  unfold Us at this ⊢
  rw [e1 _ _ (by omega) (by omega) (by omega)]
  exact this
theorem JT.of {c' : Nat → Nat} (H : JT μ y ν c L) (hc : c' 5 = c 5) (e1 : μ'.1 (y + 1) 5 = μ.1 (y + 1) 5) (e2 : ∀ l, l < 3 → μ'.1 (y + 16 + 4 * l) 0 = μ.1 (y + 16 + 4 * l) 0) {w : Nat} (hw : w < 5) (e3 : ν'.1 181 21 = (ν.1 181 21 ||| shl 1 (nI w))) : JT μ' y ν' c' L := by
  obtain ⟨⟨h1, h2, h3⟩, h4⟩ := H
  refine ⟨⟨by rw [e1, hc]; exact h1, by rw [hc]; exact h2, ?_⟩, fun l hl => ⟨by rw [e2 l hl]; exact (h4 l hl).1, ?_⟩⟩
  · rw [e3, Tb_or (by omega) (by omega), hc, ← h3]
    constructor
    · rintro (z | z)
      · omega
      · exact z
    · exact Or.inr
  · rw [e3, Tb_or (by omega) (by omega), ← (h4 l hl).2]
    constructor
    · rintro (z | z)
      · omega
      · exact z
    · exact Or.inr
theorem JB.of (H : JB μ y ν c D L) (e1 : ∀ a j, y ≤ a → a ≤ y + 26 → ¬ (a = y ∧ j = 1) → μ'.1 a j = μ.1 a j) (e2 : ∀ a j, (183 ≤ a ∧ a ≤ 200) ∨ (a = 181 ∧ (j = 21 ∨ j = 32 ∨ j = 33)) → ν'.1 a j = ν.1 a j) : JB μ' y ν' c D L := by
  obtain ⟨⟨n1, n2, n3⟩, ⟨t1, t2⟩, f0, f2, f3, f4, d, w⟩ := H
  refine ⟨⟨fun w hw => ?_, ?_, n3⟩, ⟨?_, fun l hl => ?_⟩, f0.of (fun j _ => e1 _ _ (by omega) (by omega) (by omega)) (fun j _ => e2 _ _ (by omega)), f2.of (Nat.le_refl _) (fun a j _ _ _ _ _ => e1 _ _ (by omega) (by omega) (by omega)) (fun a j _ _ _ => e2 _ _ (by omega)), f3.of (fun a j _ _ => e1 _ _ (by omega) (by omega) (by omega)) (fun a j _ _ _ => e2 _ _ (by omega)), f4.of (fun j _ => e1 _ _ (by omega) (by omega) (by omega)) (fun j _ => e2 _ _ (by omega)), d.of (Nat.le_refl _) (fun j _ => e1 _ _ (by omega) (by omega) (by omega)) (fun a j _ _ _ => e2 _ _ (by omega)), w.of (fun a j _ _ _ => e1 _ _ (by omega) (by omega) (by omega)) (fun a j _ _ => e2 _ _ (by omega))⟩
  · rw [e1 _ _ (by omega) (by omega) (by omega), e2 _ _ (by omega)]; exact n1 w hw
  · rw [e1 _ _ (by omega) (by omega) (by omega), e2 _ _ (by omega), e2 _ _ (by omega), e2 _ _ (by omega)]; exact n2
  · rw [e1 _ _ (by omega) (by omega) (by omega), e2 _ _ (by omega)]; exact t1
  · rw [e1 _ _ (by omega) (by omega) (by omega), e2 _ _ (by omega)]; exact t2 l hl
/-- counts after one more of w -/
theorem JN.up (H : JN μ y ν c) {w M : Nat} (hw : w < 5) (hM : c w < M) (hM2 : (w = 0 → M ≤ 6) ∧ (w = 1 → M ≤ 9) ∧ (w = 2 → M ≤ 8) ∧ (w = 3 → M ≤ 6) ∧ (w = 4 → M ≤ 9)) (e1 : ∀ a j, (a = y + 1 ∧ j < 5 ∧ ¬ j = w) ∨ (a = y ∧ j = 2) → μ'.1 a j = μ.1 a j) (g1 : μ'.1 (y + 1) w = nI (c w + 1)) (e2 : ∀ a j, (a = 183 ∧ ¬ j = 7 + w) ∨ (a = 181 ∧ (j = 32 ∨ j = 33)) → ν'.1 a j = ν.1 a j) (g2 : ν'.1 183 (7 + w) = nI (c w + 1)) : JN μ' y ν' (cup c w (c w + 1)) := by
  obtain ⟨n1, n2, n3⟩ := H
  have ne : ∀ x, ¬ x = w → cup c w (c w + 1) x = c x := fun x h => if_neg h
  have eq : cup c w (c w + 1) w = c w + 1 := if_pos rfl
  refine ⟨fun x hx => ?_, ?_, ?_⟩
  · by_cases z : x = w
    · rw [z, eq]; exact ⟨g1, g2⟩
    · rw [ne x z, e1 _ _ (by omega), e2 _ _ (by omega)]; exact n1 x hx
  · rw [ne 6 (by omega), e1 _ _ (by omega), e2 _ _ (by omega), e2 _ _ (by omega), e2 _ _ (by omega)]; exact n2
  · have b : ∀ x, cup c w (c w + 1) x ≤ if x = w then M else c x := fun x => by
      by_cases z : x = w
      · rw [z, eq, if_pos rfl]; omega
      · rw [ne x z, if_neg z]; omega
    refine ⟨?_, ?_, ?_, ?_, ?_, ?_⟩
    · have := b 0; split at this <;> omega
    · have := b 1; split at this <;> omega
    · have := b 2; split at this <;> omega
    · have := b 3; split at this <;> omega
    · have := b 4; split at this <;> omega
    · have := b 6; split at this <;> omega
theorem JB.room (H : JB μ y ν c D L) (hn : c 0 < 6) (e1 : ∀ a j, y ≤ a → a ≤ y + 26 → ¬ (a = y ∧ j = 1) → ¬ (a = y + 3 ∧ j = c 0) → ¬ (a = y + 1 ∧ j = 0) → μ'.1 a j = μ.1 a j) (e2 : ∀ a j, (183 ≤ a ∧ a ≤ 200) ∨ (a = 181 ∧ (j = 32 ∨ j = 33)) → ¬ (a = 184 ∧ j = 6 + c 0) → ¬ (a = 183 ∧ j = 7) → ν'.1 a j = ν.1 a j) (g1 : μ'.1 (y + 1) 0 = nI (c 0 + 1)) (g2 : ν'.1 183 7 = nI (c 0 + 1)) (g3 : μ'.1 (y + 3) (c 0) = ν'.1 184 (6 + c 0)) (g4 : ν'.1 181 21 = (ν.1 181 21 ||| shl 1 (nI 0))) : JB μ' y ν' (cup c 0 (c 0 + 1)) D L := by
  obtain ⟨jn, jt, f0, f2, f3, f4, d, w⟩ := H
  refine ⟨jn.up (w := 0) (M := 6) (by omega) hn (by omega) (fun a j h => e1 _ _ (by omega) (by omega) (by omega) (by omega) (by omega)) g1 (fun a j h => e2 _ _ (by omega) (by omega) (by omega)) g2, jt.of rfl (e1 _ _ (by omega) (by omega) (by omega) (by omega) (by omega)) (fun l hl => e1 _ _ (by omega) (by omega) (by omega) (by omega) (by omega)) (w := 0) (by omega) g4, ?_, f2.of (show c 0 ≤ c 0 + 1 by omega) (fun a j _ _ _ _ _ => e1 _ _ (by omega) (by omega) (by omega) (by omega) (by omega)) (fun a j _ _ _ => e2 _ _ (by omega) (by omega) (by omega)), f3.of (fun a j _ _ => e1 _ _ (by omega) (by omega) (by omega) (by omega) (by omega)) (fun a j _ _ _ => e2 _ _ (by omega) (by omega) (by omega)), f4.of (fun j _ => e1 _ _ (by omega) (by omega) (by omega) (by omega) (by omega)) (fun j _ => e2 _ _ (by omega) (by omega) (by omega)), d.of (show c 0 ≤ c 0 + 1 by omega) (fun j _ => e1 _ _ (by omega) (by omega) (by omega) (by omega) (by omega)) (fun a j _ _ _ => e2 _ _ (by omega) (by omega) (by omega)), w.of (fun a j _ _ _ => e1 _ _ (by omega) (by omega) (by omega) (by omega) (by omega)) (fun a j _ _ => e2 _ _ (by omega) (by omega) (by omega))⟩
  intro j hj
  have hj : j < c 0 + 1 := hj
  rcases Nat.lt_or_ge j (c 0) with z | z
  · rw [e1 _ _ (by omega) (by omega) (by omega) (by omega) (by omega), e2 _ _ (by omega) (by omega) (by omega)]; exact f0 j z
  · rw [show j = c 0 by omega]; exact g3
theorem JB.thing (H : JB μ y ν c D L) (hn : c 2 < 8) (e1 : ∀ a j, y ≤ a → a ≤ y + 26 → ¬ (a = y ∧ j = 1) → ¬ ((a = y + 5 ∨ a = y + 8 ∨ a = y + 9 ∨ a = y + 10) ∧ j = c 2) → ¬ (a = y + 1 ∧ j = 2) → μ'.1 a j = μ.1 a j) (e2 : ∀ a j, (183 ≤ a ∧ a ≤ 200) ∨ (a = 181 ∧ (j = 32 ∨ j = 33)) → ¬ (187 ≤ a ∧ a ≤ 190 ∧ j = 8 + c 2) → ¬ (a = 183 ∧ j = 9) → ν'.1 a j = ν.1 a j) (g1 : μ'.1 (y + 1) 2 = nI (c 2 + 1)) (g2 : ν'.1 183 9 = nI (c 2 + 1)) (g3 : μ'.1 (y + 5) (c 2) = ν'.1 187 (8 + c 2) ∧ EVv (c 0) (μ'.1 (y + 8) (c 2)) (ν'.1 188 (8 + c 2)) ∧ EVv 6 (μ'.1 (y + 9) (c 2)) (ν'.1 189 (8 + c 2)) ∧ EVv 10 (μ'.1 (y + 10) (c 2)) (ν'.1 190 (8 + c 2))) (g4 : ν'.1 181 21 = (ν.1 181 21 ||| shl 1 (nI 2))) : JB μ' y ν' (cup c 2 (c 2 + 1)) D L := by
  obtain ⟨jn, jt, f0, f2, f3, f4, d, w⟩ := H
  refine ⟨jn.up (w := 2) (M := 8) (by omega) hn (by omega) (fun a j h => e1 _ _ (by omega) (by omega) (by omega) (by omega) (by omega)) g1 (fun a j h => e2 _ _ (by omega) (by omega) (by omega)) g2, jt.of rfl (e1 _ _ (by omega) (by omega) (by omega) (by omega) (by omega)) (fun l hl => e1 _ _ (by omega) (by omega) (by omega) (by omega) (by omega)) (w := 2) (by omega) g4, f0.of (fun j _ => e1 _ _ (by omega) (by omega) (by omega) (by omega) (by omega)) (fun j _ => e2 _ _ (by omega) (by omega) (by omega)), ?_, f3.of (fun a j _ _ => e1 _ _ (by omega) (by omega) (by omega) (by omega) (by omega)) (fun a j _ _ _ => e2 _ _ (by omega) (by omega) (by omega)), f4.of (fun j _ => e1 _ _ (by omega) (by omega) (by omega) (by omega) (by omega)) (fun j _ => e2 _ _ (by omega) (by omega) (by omega)), d.of (Nat.le_refl _) (fun j _ => e1 _ _ (by omega) (by omega) (by omega) (by omega) (by omega)) (fun a j _ _ _ => e2 _ _ (by omega) (by omega) (by omega)), w.of (fun a j _ _ _ => e1 _ _ (by omega) (by omega) (by omega) (by omega) (by omega)) (fun a j _ _ => e2 _ _ (by omega) (by omega) (by omega))⟩
  intro j hj
  have hj : j < c 2 + 1 := hj
  rcases Nat.lt_or_ge j (c 2) with z | z
  · exact (f2.of (μ' := μ') (ν' := ν') (Nat.le_refl _) (fun a j _ _ _ _ _ => e1 _ _ (by omega) (by omega) (by omega) (by omega) (by omega)) (fun a j _ _ _ => e2 _ _ (by omega) (by omega) (by omega))) j z
  · rw [show j = c 2 by omega]; exact g3
theorem JB.dead (H : JB μ y ν c D L) (hn : c 3 < 6) (e1 : ∀ a j, y ≤ a → a ≤ y + 26 → ¬ (a = y ∧ j = 1) → ¬ ((a = y + 6 ∨ (y + 11 ≤ a ∧ a ≤ y + 14)) ∧ j = c 3) → ¬ (a = y + 1 ∧ j = 3) → μ'.1 a j = μ.1 a j) (e2 : ∀ a j, (183 ≤ a ∧ a ≤ 200) ∨ (a = 181 ∧ (j = 32 ∨ j = 33)) → ¬ (191 ≤ a ∧ a ≤ 195 ∧ j = 6 + c 3) → ¬ (a = 183 ∧ j = 10) → ν'.1 a j = ν.1 a j) (g1 : μ'.1 (y + 1) 3 = nI (c 3 + 1)) (g2 : ν'.1 183 10 = nI (c 3 + 1)) (g3 : μ'.1 (y + 6) (c 3) = ν'.1 191 (6 + c 3) ∧ EVv 10 (μ'.1 (y + 11) (c 3)) (ν'.1 192 (6 + c 3)) ∧ EVv 6 (μ'.1 (y + 12) (c 3)) (ν'.1 193 (6 + c 3)) ∧ EVv 2 (μ'.1 (y + 13) (c 3)) (ν'.1 194 (6 + c 3)) ∧ EVv 101 (μ'.1 (y + 14) (c 3)) (ν'.1 195 (6 + c 3))) (g4 : ν'.1 181 21 = (ν.1 181 21 ||| shl 1 (nI 3))) : JB μ' y ν' (cup c 3 (c 3 + 1)) D L := by
  obtain ⟨jn, jt, f0, f2, f3, f4, d, w⟩ := H
  refine ⟨jn.up (w := 3) (M := 6) (by omega) hn (by omega) (fun a j h => e1 _ _ (by omega) (by omega) (by omega) (by omega) (by omega)) g1 (fun a j h => e2 _ _ (by omega) (by omega) (by omega)) g2, jt.of rfl (e1 _ _ (by omega) (by omega) (by omega) (by omega) (by omega)) (fun l hl => e1 _ _ (by omega) (by omega) (by omega) (by omega) (by omega)) (w := 3) (by omega) g4, f0.of (fun j _ => e1 _ _ (by omega) (by omega) (by omega) (by omega) (by omega)) (fun j _ => e2 _ _ (by omega) (by omega) (by omega)), f2.of (Nat.le_refl _) (fun a j _ _ _ _ _ => e1 _ _ (by omega) (by omega) (by omega) (by omega) (by omega)) (fun a j _ _ _ => e2 _ _ (by omega) (by omega) (by omega)), ?_, f4.of (fun j _ => e1 _ _ (by omega) (by omega) (by omega) (by omega) (by omega)) (fun j _ => e2 _ _ (by omega) (by omega) (by omega)), d.of (Nat.le_refl _) (fun j _ => e1 _ _ (by omega) (by omega) (by omega) (by omega) (by omega)) (fun a j _ _ _ => e2 _ _ (by omega) (by omega) (by omega)), w.of (fun a j _ _ _ => e1 _ _ (by omega) (by omega) (by omega) (by omega) (by omega)) (fun a j _ _ => e2 _ _ (by omega) (by omega) (by omega))⟩
  intro j hj
  have hj : j < c 3 + 1 := hj
  rcases Nat.lt_or_ge j (c 3) with z | z
  · exact (f3.of (μ' := μ') (ν' := ν') (fun a j _ _ => e1 _ _ (by omega) (by omega) (by omega) (by omega) (by omega)) (fun a j _ _ _ => e2 _ _ (by omega) (by omega) (by omega))) j z
  · rw [show j = c 3 by omega]; exact g3
theorem JB.glass (H : JB μ y ν c D L) (hn : c 4 < 9) (e1 : ∀ a j, y ≤ a → a ≤ y + 26 → ¬ (a = y ∧ j = 1) → ¬ (a = y + 15 ∧ j = c 4) → ¬ (a = y + 1 ∧ j = 4) → μ'.1 a j = μ.1 a j) (e2 : ∀ a j, (183 ≤ a ∧ a ≤ 200) ∨ (a = 181 ∧ (j = 32 ∨ j = 33)) → ¬ (a = 196 ∧ j = 9 + c 4) → ¬ (a = 183 ∧ j = 11) → ν'.1 a j = ν.1 a j) (g1 : μ'.1 (y + 1) 4 = nI (c 4 + 1)) (g2 : ν'.1 183 11 = nI (c 4 + 1)) (g3 : EVv 100 (μ'.1 (y + 15) (c 4)) (ν'.1 196 (9 + c 4))) (g4 : ν'.1 181 21 = (ν.1 181 21 ||| shl 1 (nI 4))) : JB μ' y ν' (cup c 4 (c 4 + 1)) D L := by
  obtain ⟨jn, jt, f0, f2, f3, f4, d, w⟩ := H
  refine ⟨jn.up (w := 4) (M := 9) (by omega) hn (by omega) (fun a j h => e1 _ _ (by omega) (by omega) (by omega) (by omega) (by omega)) g1 (fun a j h => e2 _ _ (by omega) (by omega) (by omega)) g2, jt.of rfl (e1 _ _ (by omega) (by omega) (by omega) (by omega) (by omega)) (fun l hl => e1 _ _ (by omega) (by omega) (by omega) (by omega) (by omega)) (w := 4) (by omega) g4, f0.of (fun j _ => e1 _ _ (by omega) (by omega) (by omega) (by omega) (by omega)) (fun j _ => e2 _ _ (by omega) (by omega) (by omega)), f2.of (Nat.le_refl _) (fun a j _ _ _ _ _ => e1 _ _ (by omega) (by omega) (by omega) (by omega) (by omega)) (fun a j _ _ _ => e2 _ _ (by omega) (by omega) (by omega)), f3.of (fun a j _ _ => e1 _ _ (by omega) (by omega) (by omega) (by omega) (by omega)) (fun a j _ _ _ => e2 _ _ (by omega) (by omega) (by omega)), ?_, d.of (Nat.le_refl _) (fun j _ => e1 _ _ (by omega) (by omega) (by omega) (by omega) (by omega)) (fun a j _ _ _ => e2 _ _ (by omega) (by omega) (by omega)), w.of (fun a j _ _ _ => e1 _ _ (by omega) (by omega) (by omega) (by omega) (by omega)) (fun a j _ _ => e2 _ _ (by omega) (by omega) (by omega))⟩
  intro j hj
  have hj : j < c 4 + 1 := hj
  rcases Nat.lt_or_ge j (c 4) with z | z
  · exact (f4.of (μ' := μ') (ν' := ν') (fun j _ => e1 _ _ (by omega) (by omega) (by omega) (by omega) (by omega)) (fun j _ => e2 _ _ (by omega) (by omega) (by omega))) j z
  · rw [show j = c 4 by omega]; exact g3
theorem JB.seed (H : JB μ y ν c D L) (hn : c 5 = 0) (e1 : ∀ a j, y ≤ a → a ≤ y + 26 → ¬ (a = y ∧ j = 1) → ¬ (a = y + 1 ∧ j = 5) → μ'.1 a j = μ.1 a j) (e2 : ∀ a j, (183 ≤ a ∧ a ≤ 200) ∨ (a = 181 ∧ (j = 32 ∨ j = 33)) → ¬ (a = 183 ∧ j = 12) → ν'.1 a j = ν.1 a j) (g1 : μ'.1 (y + 1) 5 = nI (c 5 + 1)) (g4 : ν'.1 181 21 = (ν.1 181 21 ||| shl 1 (nI 5))) : JB μ' y ν' (cup c 5 (c 5 + 1)) D L := by
  obtain ⟨⟨n1, n2, n3⟩, ⟨t1, t2⟩, f0, f2, f3, f4, d, w⟩ := H
  refine ⟨⟨fun x hx => ?_, ?_, n3⟩, ⟨⟨g1, by show c 5 + 1 ≤ 1; omega, ?_⟩, fun l hl => ⟨?_, ?_⟩⟩, f0.of (fun j _ => e1 _ _ (by omega) (by omega) (by omega) (by omega)) (fun j _ => e2 _ _ (by omega) (by omega)), f2.of (Nat.le_refl _) (fun a j _ _ _ _ _ => e1 _ _ (by omega) (by omega) (by omega) (by omega)) (fun a j _ _ _ => e2 _ _ (by omega) (by omega)), f3.of (fun a j _ _ => e1 _ _ (by omega) (by omega) (by omega) (by omega)) (fun a j _ _ _ => e2 _ _ (by omega) (by omega)), f4.of (fun j _ => e1 _ _ (by omega) (by omega) (by omega) (by omega)) (fun j _ => e2 _ _ (by omega) (by omega)), d.of (Nat.le_refl _) (fun j _ => e1 _ _ (by omega) (by omega) (by omega) (by omega)) (fun a j _ _ _ => e2 _ _ (by omega) (by omega)), w.of (fun a j _ _ _ => e1 _ _ (by omega) (by omega) (by omega) (by omega)) (fun a j _ _ => e2 _ _ (by omega) (by omega))⟩
  · rw [show cup c 5 (c 5 + 1) x = c x from if_neg (by omega), e1 _ _ (by omega) (by omega) (by omega) (by omega), e2 _ _ (by omega) (by omega)]; exact n1 x hx
  · rw [e1 _ _ (by omega) (by omega) (by omega) (by omega), e2 _ _ (by omega) (by omega), e2 _ _ (by omega) (by omega), e2 _ _ (by omega) (by omega)]; exact n2
  · rw [g4, Tb_or (by decide) (by decide)]
    exact ⟨fun _ => by show c 5 + 1 = 1; omega, fun _ => Or.inl rfl⟩
  · rw [e1 _ _ (by omega) (by omega) (by omega) (by omega)]; exact (t2 l hl).1
  · rw [g4, Tb_or (by omega) (by decide), ← (t2 l hl).2]
    constructor
    · rintro (z | z)
      · omega
      · exact z
    · exact Or.inr
theorem JB.door (H : JB μ y ν c D L) (hn : c 1 < 9) {a0 b0 : Nat} (ha : a0 < c 0) (hb : b0 < c 0) (hab : ¬ a0 = b0) (e1 : ∀ a j, y ≤ a → a ≤ y + 26 → ¬ (a = y ∧ j = 1) → ¬ (a = y + 7 ∧ (j = a0 ∨ j = b0)) → ¬ (a = y + 1 ∧ j = 1) → μ'.1 a j = μ.1 a j) (e2 : ∀ a j, (183 ≤ a ∧ a ≤ 200) ∨ (a = 181 ∧ (j = 32 ∨ j = 33)) → ¬ ((a = 185 ∨ a = 186) ∧ j = 9 + c 1) → ¬ (a = 183 ∧ j = 8) → ν'.1 a j = ν.1 a j) (g1 : μ'.1 (y + 1) 1 = nI (c 1 + 1)) (g2 : ν'.1 183 8 = nI (c 1 + 1)) (g3 : μ'.1 (y + 7) a0 = (μ.1 (y + 7) a0 ||| shl 1 (nI b0))) (g3' : μ'.1 (y + 7) b0 = (μ.1 (y + 7) b0 ||| shl 1 (nI a0))) (g5 : ν'.1 185 (9 + c 1) = nI a0) (g6 : ν'.1 186 (9 + c 1) = nI b0) (g4 : ν'.1 181 21 = (ν.1 181 21 ||| shl 1 (nI 1))) : JB μ' y ν' (cup c 1 (c 1 + 1)) (fun x z => D x z || (decide (x = a0 ∧ z = b0) || decide (x = b0 ∧ z = a0))) L := by
  obtain ⟨jn, jt, f0, f2, f3, f4, d, w⟩ := H
  have hc0 := jn.2.2.1
  refine ⟨jn.up (w := 1) (M := 9) (by omega) hn (by omega) (fun a j h => e1 _ _ (by omega) (by omega) (by omega) (by omega) (by omega)) g1 (fun a j h => e2 _ _ (by omega) (by omega) (by omega)) g2, jt.of rfl (e1 _ _ (by omega) (by omega) (by omega) (by omega) (by omega)) (fun l hl => e1 _ _ (by omega) (by omega) (by omega) (by omega) (by omega)) (w := 1) (by omega) g4, f0.of (fun j _ => e1 _ _ (by omega) (by omega) (by omega) (by omega) (by omega)) (fun j _ => e2 _ _ (by omega) (by omega) (by omega)), f2.of (Nat.le_refl _) (fun a j _ _ _ _ _ => e1 _ _ (by omega) (by omega) (by omega) (by omega) (by omega)) (fun a j _ _ _ => e2 _ _ (by omega) (by omega) (by omega)), f3.of (fun a j _ _ => e1 _ _ (by omega) (by omega) (by omega) (by omega) (by omega)) (fun a j _ _ _ => e2 _ _ (by omega) (by omega) (by omega)), f4.of (fun j _ => e1 _ _ (by omega) (by omega) (by omega) (by omega) (by omega)) (fun j _ => e2 _ _ (by omega) (by omega) (by omega)), ?_, w.of (fun a j _ _ _ => e1 _ _ (by omega) (by omega) (by omega) (by omega) (by omega)) (fun a j _ _ => e2 _ _ (by omega) (by omega) (by omega))⟩
  obtain ⟨h1, h2, h3, h4, h5⟩ := d
  have tr : ∀ x z, (D x z || (decide (x = a0 ∧ z = b0) || decide (x = b0 ∧ z = a0))) = true ↔ (D x z = true ∨ (x = a0 ∧ z = b0) ∨ (x = b0 ∧ z = a0)) := fun x z => by simp only [Bool.or_eq_true, decide_eq_true_eq]
  refine ⟨fun x z => ?_, fun x => ?_, fun x z hh => ?_, fun x z hx hz => ?_, fun x z hx hz => ?_⟩
  · rw [Bool.eq_iff_iff, tr, tr, h1 x z]
    constructor <;> rintro (q | q | q) <;> first | exact Or.inl q | exact Or.inr (Or.inl ⟨q.2, q.1⟩) | exact Or.inr (Or.inr ⟨q.2, q.1⟩)
  · rw [Bool.eq_false_iff]
    intro q
    rcases (tr x x).mp q with q | q | q
    · rw [h2 x] at q; cases q
    · omega
    · omega
  · rcases (tr x z).mp hh with q | q | q
    · exact h3 x z q
    · exact ⟨by show x < c 0; omega, by show z < c 0; omega⟩
    · exact ⟨by show x < c 0; omega, by show z < c 0; omega⟩
  · rw [Bool.eq_false_iff, Ne, tr]
    have hq : nbit (μ'.1 (y + 7) x) z ↔ (nbit (μ.1 (y + 7) x) z ∧ ¬ (x = a0 ∧ z = b0) ∧ ¬ (x = b0 ∧ z = a0)) := by
      by_cases xa : x = a0
      · subst xa
        rw [g3, nbit_or (by omega), nbit_1 b0 (by omega) z hz]
        constructor
        · exact fun q => ⟨q.1, fun w => q.2 w.2, fun w => hab w.1⟩
        · exact fun q => ⟨q.1, fun w => q.2.1 ⟨rfl, w⟩⟩
      · by_cases xb : x = b0
        · subst xb
          rw [g3', nbit_or (by omega), nbit_1 a0 (by omega) z hz]
          constructor
          · exact fun q => ⟨q.1, fun w => xa w.1, fun w => q.2 w.2⟩
          · exact fun q => ⟨q.1, fun w => q.2.2 ⟨rfl, w⟩⟩
        · rw [e1 _ _ (by omega) (by omega) (by omega) (by omega) (by omega)]
          constructor
          · exact fun q => ⟨q, fun w => xa w.1, fun w => xb w.1⟩
          · exact fun q => q.1
    rw [hq, h4 x z hx hz, Bool.eq_false_iff]
    constructor
    · rintro ⟨q1, q2, q3⟩ (w | w | w)
      · exact q1 w
      · exact q2 w
      · exact q3 w
    · exact fun q => ⟨fun w => q (Or.inl w), fun w => q (Or.inr (Or.inl w)), fun w => q (Or.inr (Or.inr w))⟩
  · rw [tr, h5 x z hx hz]
    constructor
    · rintro (⟨i, hi, q⟩ | q | q)
      · exact ⟨i, by show i < c 1 + 1; omega, by rw [e2 _ _ (by omega) (by omega) (by omega), e2 _ _ (by omega) (by omega) (by omega)]; exact q⟩
      · exact ⟨c 1, by show c 1 < c 1 + 1; omega, Or.inl ⟨by rw [g5, q.1], by rw [g6, q.2]⟩⟩
      · exact ⟨c 1, by show c 1 < c 1 + 1; omega, Or.inr ⟨by rw [g5, q.2], by rw [g6, q.1]⟩⟩
    · rintro ⟨i, hi, q⟩
      have hi : i < c 1 + 1 := hi
      rcases Nat.lt_or_ge i (c 1) with w | w
      · rw [e2 _ _ (by omega) (by omega) (by omega), e2 _ _ (by omega) (by omega) (by omega)] at q
        exact Or.inl ⟨i, w, q⟩
      · rw [show i = c 1 by omega, g5, g6] at q
        rcases q with q | q
        · exact Or.inr (Or.inl ⟨((nI_eq (by omega) (by omega)).mp q.1).symm, ((nI_eq (by omega) (by omega)).mp q.2).symm⟩)
        · exact Or.inr (Or.inr ⟨((nI_eq (by omega) (by omega)).mp q.2).symm, ((nI_eq (by omega) (by omega)).mp q.1).symm⟩)
theorem JB.law (H : JB μ y ν c D L) {l kn : Nat} {M : List (Int32 × Int32)} (hl : l < 3) (hL : L l = []) (hM : ¬ M = []) (hW : WL M) (hk : kn = c 6 + M.length) (hk2 : kn ≤ 64) (e1 : ∀ a j, y ≤ a → a ≤ y + 26 → ¬ (a = y ∧ j = 1) → ¬ (y + 16 + 4 * l ≤ a ∧ a ≤ y + 18 + 4 * l) → ¬ (a = y ∧ j = 2) → μ'.1 a j = μ.1 a j) (e2 : ∀ a j, (183 ≤ a ∧ a ≤ 200) ∨ (a = 181 ∧ j = 32) → ¬ (a = 183 ∧ j = 13) → ¬ ((a = 199 ∨ a = 200) ∧ 64 + c 6 ≤ j) → ¬ ((a = 197 ∨ a = 198) ∧ j = 3 + l) → ν'.1 a j = ν.1 a j) (g1 : μ'.1 y 2 = nI kn) (g2 : ν'.1 183 13 = nI kn) (g3 : ν'.1 181 33 = nI kn) (t1 : μ'.1 (y + 16 + 4 * l) 0 = 1) (g5 : CL μ' (y + 16 + 4 * l) M) (g6 : Us μ' (y + 16 + 4 * l) M) (g7 : ν'.1 197 (3 + l) = nI (c 6)) (g8 : ν'.1 198 (3 + l) = nI kn) (g9 : ∀ i, i < M.length → ∃ p, M[i]? = some p ∧ ν'.1 199 (64 + c 6 + i) = (cdm p).1 ∧ ν'.1 200 (64 + c 6 + i) = (cdm p).2) (g4 : ν'.1 181 21 = ((ν.1 181 21 ||| shl 1 (nI 6)) ||| shl 1 (nI (16 + l)))) : JB μ' y ν' (cup c 6 kn) D (fun x => if x = l then M else L x) := by
  obtain ⟨⟨n1, n2, n3⟩, ⟨s1, s2⟩, f0, f2, f3, f4, d, w⟩ := H
  refine ⟨⟨fun x hx => ?_, ⟨g1, g2, g3, ?_⟩, ⟨n3.1, n3.2.1, n3.2.2.1, n3.2.2.2.1, n3.2.2.2.2.1, hk2⟩⟩, ⟨⟨?_, s1.2.1, ?_⟩, fun i hi => ?_⟩, f0.of (fun j _ => e1 _ _ (by omega) (by omega) (by omega) (by omega) (by omega)) (fun j _ => e2 _ _ (by omega) (by omega) (by omega) (by omega)), f2.of (Nat.le_refl _) (fun a j _ _ _ _ _ => e1 _ _ (by omega) (by omega) (by omega) (by omega) (by omega)) (fun a j _ _ _ => e2 _ _ (by omega) (by omega) (by omega) (by omega)), f3.of (fun a j _ _ => e1 _ _ (by omega) (by omega) (by omega) (by omega) (by omega)) (fun a j _ _ _ => e2 _ _ (by omega) (by omega) (by omega) (by omega)), f4.of (fun j _ => e1 _ _ (by omega) (by omega) (by omega) (by omega) (by omega)) (fun j _ => e2 _ _ (by omega) (by omega) (by omega) (by omega)), d.of (Nat.le_refl _) (fun j _ => e1 _ _ (by omega) (by omega) (by omega) (by omega) (by omega)) (fun a j _ _ _ => e2 _ _ (by omega) (by omega) (by omega) (by omega)), fun i hi => ?_, ?_⟩
  · rw [show cup c 6 kn x = c x from if_neg (by omega), e1 _ _ (by omega) (by omega) (by omega) (by omega) (by omega), e2 _ _ (by omega) (by omega) (by omega) (by omega)]; exact n1 x hx
  · rw [e2 _ _ (by omega) (by omega) (by omega) (by omega)]; exact n2.2.2.2
  · rw [e1 _ _ (by omega) (by omega) (by omega) (by omega) (by omega)]; exact s1.1
  · rw [g4, Tb_or (by decide) (by omega), Tb_or (by decide) (by decide)]
    constructor
    · rintro (z | z | z)
      · omega
      · omega
      · exact s1.2.2.mp z
    · exact fun z => Or.inr (Or.inr (s1.2.2.mpr z))
  · dsimp only
    by_cases z : i = l
    · subst z
      refine ⟨?_, ?_⟩
      · rw [t1]
        exact (if_neg (by rw [if_pos rfl]; exact hM)).symm
      · rw [g4, Tb_or (by omega) (by omega), if_pos rfl]
        exact ⟨fun _ => hM, fun _ => Or.inl rfl⟩
    · simp only [if_neg z]
      rw [g4, Tb_or (by omega) (by omega), Tb_or (by omega) (by decide), e1 _ _ (by omega) (by omega) (by omega) (by omega) (by omega)]
      refine ⟨(s2 i hi).1, ?_⟩
      rw [← (s2 i hi).2]
      constructor
      · rintro (q | q | q)
        · omega
        · omega
        · exact q
      · exact fun q => Or.inr (Or.inr q)
  · dsimp only
    by_cases z : i = l
    · subst z
      rw [if_pos rfl]
      exact ⟨hW, g5, c 6, g7, by rw [g8, hk], by show c 6 + M.length ≤ kn; omega, g9⟩
    · rw [if_neg z]
      exact (w.1 i hi).of (show c 6 ≤ kn by omega) (fun a j _ _ _ => e1 _ _ (by omega) (by omega) (by omega) (by omega) (by omega)) ⟨e2 _ _ (by omega) (by omega) (by omega) (by omega), e2 _ _ (by omega) (by omega) (by omega) (by omega)⟩ (fun a j _ _ _ => e2 _ _ (by omega) (by omega) (by omega) (by omega))
  · dsimp only
    by_cases z : 0 = l
    · subst z
      rw [if_pos rfl]
      exact g6
    · rw [if_neg z]
      have := w.2
      unfold Us at this ⊢
      rw [e1 _ _ (by omega) (by omega) (by omega) (by omega) (by omega)]
      exact this
end Grow
