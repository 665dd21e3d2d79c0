/-! the reference's stands: copied, begun, summed; bits -/
section Ref4
variable {ν : fMem} {V : HV} {x y : Nat} {S : SV} {g : Int32} {ts : Nat → Int32} {tw ti dg : Int32}
abbrev BN (_ _ : Nat) : Prop := False
/-- the y-th stand is as the x-th was -/
def Cpd (ν ν' : fMem) (y x : Nat) : Prop := (∀ c, 203 ≤ c → c ≤ 205 → ν'.1 c y = ν.1 c x) ∧ (∀ c, 206 ≤ c → c ≤ 208 → ∀ j, j < 8 → ν'.1 c (8 * y + j) = ν.1 c (8 * x + j)) ∧ ∀ c, 209 ≤ c → c ≤ 210 → ∀ j, j < 6 → ν'.1 c (6 * y + j) = ν.1 c (6 * x + j)
theorem MSt.cpd {ν' : fMem} (h8 : V.1 2 ≤ 8) (H : MSt ν x V S tw ti) (C : Cpd ν ν' y x) : MSt ν' y V S tw ti := by
  obtain ⟨a1, a2, a3, a4, a5, a6, a7⟩ := H
  refine ⟨fun j hj => ?_, fun j hj => ?_, fun j hj => ?_, fun j hj => ?_, fun j hj => ?_, ?_, ?_⟩
  · rw [C.2.1 _ (by omega) (by omega) j (by omega)]; exact a1 j hj
  · rw [C.2.1 _ (by omega) (by omega) j (by omega)]; exact a2 j hj
  · rw [C.2.1 _ (by omega) (by omega) j (by omega)]; exact a3 j hj
  · rw [C.2.2 _ (by omega) (by omega) j (by omega)]; exact a4 j hj
  · rw [C.2.2 _ (by omega) (by omega) j (by omega)]; exact a5 j hj
  · rw [C.1 _ (by omega) (by omega)]; exact a6
  · rw [C.1 _ (by omega) (by omega)]; exact a7
theorem copies_spec (hx : x < 23) (hy : y < 23) (hxy : ¬ x = y) : Ok (f_X11_copies 181 (nI y) (nI x) ν) (fun _ ν' => Kx (Px y) BN ν ν' ∧ Cpd ν ν' y x) := by
  unfold f_X11_copies
  simp only [Nat.reduceAdd, gd_t (show ixo (nI x) 23 from ixN hx (by omega)), gd_t (show ixo (nI y) 23 from ixN hy (by omega)), nI_clamp (show x < 2 ^ 31 by omega), nI_clamp (show y < 2 ^ 31 by omega)]
  rw [Ok_vl, Ok_vl, Ok_vl]
  generalize hν0 : sI (sI (sI ν 203 y (ν.1 203 x)) 204 y ((sI ν 203 y (ν.1 203 x)).1 204 x)) 205 y ((sI (sI ν 203 y (ν.1 203 x)) 204 y ((sI ν 203 y (ν.1 203 x)).1 204 x)).1 205 x) = ν0
  have K0 : Kx (Px y) BN ν ν0 := by
    subst hν0
    exact ((Kx.rfl'.sI (Or.inl ⟨by omega, by omega, rfl⟩)).sI (Or.inl ⟨by omega, by omega, rfl⟩)).sI (Or.inl ⟨by omega, by omega, rfl⟩)
  have c0 : ∀ c, 203 ≤ c → c ≤ 205 → ν0.1 c y = ν.1 c x := by
    intro c h1 h2
    subst hν0
    rcases (show c = 203 ∨ c = 204 ∨ c = 205 by omega) with rfl | rfl | rfl <;> simp [sI_i]
  rw [Ok_bd]
  refine Ok.mono (Q := fun u (q : Int32 × fMem) => Kx (Px y) BN ν q.2 ∧ (∀ c, 203 ≤ c → c ≤ 205 → q.2.1 c y = ν.1 c x) ∧ ∀ c, 206 ≤ c → c ≤ 208 → ∀ j, j < 8 → q.2.1 c (8 * y + j) = ν.1 c (8 * x + j)) (Ok_lp 8 (fun i (q : Int32 × fMem) => q.1 = nI i ∧ Kx (Px y) BN ν q.2 ∧ (∀ c, 203 ≤ c → c ≤ 205 → q.2.1 c y = ν.1 c x) ∧ ∀ c, 206 ≤ c → c ≤ 208 → ∀ j, j < i → q.2.1 c (8 * y + j) = ν.1 c (8 * x + j)) (by omega) ⟨rfl, K0, c0, fun c _ _ j hj => by omega⟩ ?_) ?_
  · rintro i ⟨z, ν1⟩ hi ⟨hz, K1, d1, d2⟩
    dsimp only at hz K1 d1 d2 ⊢
    subst hz
    unfold f_X11_copies_L38
    rcases Nat.lt_or_ge i 8 with q | q
    · simp only [Nat.reduceAdd, if_neg (show ¬ 8 ≤ nI i from nI_ge (b := 8) q (by omega)), e8x, gd_t (show ixo (nI (8 * x + i)) 184 from ixN (by omega) (by omega)), gd_t (show ixo (nI (8 * y + i)) 184 from ixN (by omega) (by omega)), nI_clamp (show 8 * x + i < 2 ^ 31 by omega), nI_clamp (show 8 * y + i < 2 ^ 31 by omega)]
      rw [Ok_vl, Ok_vl, Ok_vl, Ok_vl, nI_1, Ok_some]
      have r : ∀ c, ν1.1 c (8 * x + i) = ν.1 c (8 * x + i) ∨ ¬ (206 ≤ c ∧ c ≤ 208) := by
        intro c
        by_cases h : 206 ≤ c ∧ c ≤ 208
        · exact Or.inl (K1.2.1 c _ (by unfold Px; omega))
        · exact Or.inr h
      have r6 := (r 206).resolve_right (by omega)
      have r7 := (r 207).resolve_right (by omega)
      have r8 := (r 208).resolve_right (by omega)
      refine Or.inl ⟨rfl, q, rfl, ((K1.sI (Or.inr (Or.inl ⟨by omega, by omega, by omega, by omega⟩))).sI (Or.inr (Or.inl ⟨by omega, by omega, by omega, by omega⟩))).sI (Or.inr (Or.inl ⟨by omega, by omega, by omega, by omega⟩)), fun c h1 h2 => ?_, fun c h1 h2 j hj => ?_⟩
      · simp only [sI_i, show ¬ (c = 206 ∧ y = 8 * y + i) by omega, show ¬ (c = 207 ∧ y = 8 * y + i) by omega, show ¬ (c = 208 ∧ y = 8 * y + i) by omega, if_false]
        exact d1 c h1 h2
      · by_cases e : j = i
        · subst e
          rcases (show c = 206 ∨ c = 207 ∨ c = 208 by omega) with rfl | rfl | rfl <;> simp [sI_i, r6, r7, r8]
        · simp only [sI_i, show ¬ (c = 206 ∧ 8 * y + j = 8 * y + i) by omega, show ¬ (c = 207 ∧ 8 * y + j = 8 * y + i) by omega, show ¬ (c = 208 ∧ 8 * y + j = 8 * y + i) by omega, if_false]
          exact d2 c h1 h2 j (by omega)
    · rw [if_pos (show 8 ≤ nI i from nI_le (a := 8) q (by omega)), Ok_some]
      have : i = 8 := by omega
      subst this
      exact Or.inr ⟨0, rfl, K1, d1, d2⟩
  · rintro u ⟨z, ν1⟩ ⟨K1, d1, d2⟩
    dsimp only at K1 d1 d2 ⊢
    rw [Ok_bd]
    refine Ok.mono (Q := fun u (q : Int32 × fMem) => Kx (Px y) BN ν q.2 ∧ (∀ c, 203 ≤ c → c ≤ 205 → q.2.1 c y = ν.1 c x) ∧ (∀ c, 206 ≤ c → c ≤ 208 → ∀ j, j < 8 → q.2.1 c (8 * y + j) = ν.1 c (8 * x + j)) ∧ ∀ c, 209 ≤ c → c ≤ 210 → ∀ j, j < 6 → q.2.1 c (6 * y + j) = ν.1 c (6 * x + j)) (Ok_lp 6 (fun i (q : Int32 × fMem) => q.1 = nI i ∧ Kx (Px y) BN ν q.2 ∧ (∀ c, 203 ≤ c → c ≤ 205 → q.2.1 c y = ν.1 c x) ∧ (∀ c, 206 ≤ c → c ≤ 208 → ∀ j, j < 8 → q.2.1 c (8 * y + j) = ν.1 c (8 * x + j)) ∧ ∀ c, 209 ≤ c → c ≤ 210 → ∀ j, j < i → q.2.1 c (6 * y + j) = ν.1 c (6 * x + j)) (by omega) ⟨rfl, K1, d1, d2, fun c _ _ j hj => by omega⟩ ?_) ?_
    · rintro i ⟨z, ν2⟩ hi ⟨hz, K2, b1, b2, b3⟩
      dsimp only at hz K2 b1 b2 b3 ⊢
      subst hz
      unfold f_X11_copies_L118
      rcases Nat.lt_or_ge i 6 with q | q
      · simp only [Nat.reduceAdd, if_neg (show ¬ 6 ≤ nI i from nI_ge (b := 6) q (by omega)), e6x, gd_t (show ixo (nI (6 * x + i)) 138 from ixN (by omega) (by omega)), gd_t (show ixo (nI (6 * y + i)) 138 from ixN (by omega) (by omega)), nI_clamp (show 6 * x + i < 2 ^ 31 by omega), nI_clamp (show 6 * y + i < 2 ^ 31 by omega)]
        rw [Ok_vl, Ok_vl, Ok_vl, nI_1, Ok_some]
        have r9 : ν2.1 209 (6 * x + i) = ν.1 209 (6 * x + i) := K2.2.1 _ _ (by unfold Px; omega)
        have r10 : ν2.1 210 (6 * x + i) = ν.1 210 (6 * x + i) := K2.2.1 _ _ (by unfold Px; omega)
        refine Or.inl ⟨rfl, q, rfl, (K2.sI (Or.inr (Or.inr ⟨by omega, by omega, by omega, by omega⟩))).sI (Or.inr (Or.inr ⟨by omega, by omega, by omega, by omega⟩)), fun c h1 h2 => ?_, fun c h1 h2 j hj => ?_, fun c h1 h2 j hj => ?_⟩
        · simp only [sI_i, show ¬ (c = 209 ∧ y = 6 * y + i) by omega, show ¬ (c = 210 ∧ y = 6 * y + i) by omega, if_false]
          exact b1 c h1 h2
        · simp only [sI_i, show ¬ (c = 209 ∧ 8 * y + j = 6 * y + i) by omega, show ¬ (c = 210 ∧ 8 * y + j = 6 * y + i) by omega, if_false]
          exact b2 c h1 h2 j hj
        · by_cases e : j = i
          · subst e
            rcases (show c = 209 ∨ c = 210 by omega) with rfl | rfl <;> simp [sI_i, r9, r10]
          · simp only [sI_i, show ¬ (c = 209 ∧ 6 * y + j = 6 * y + i) by omega, show ¬ (c = 210 ∧ 6 * y + j = 6 * y + i) by omega, if_false]
            exact b3 c h1 h2 j (by omega)
      · rw [if_pos (show 6 ≤ nI i from nI_le (a := 6) q (by omega)), Ok_some]
        have : i = 6 := by omega
        subst this
        exact Or.inr ⟨0, rfl, K2, b1, b2, b3⟩
    · rintro u ⟨z, ν2⟩ ⟨K2, b1, b2, b3⟩
      exact Ok_some.mpr ⟨K2, b1, b2, b3⟩
/-- a stand as the house tells it -/
def S0 (V : HV) : SV := fun i j => if i = 0 then V.2.1 0 j else 0
theorem S0_SW (hV : HW V) : SW V (S0 V) := by
  refine ⟨fun t ht => Or.inr ?_, ⟨0, by omega, rfl⟩, fun j a b => ⟨rfl, rfl⟩, fun j a b => rfl⟩
  exact (hV.2.2.2.2.2.2.1 t ht).1
theorem starts_spec (hV : HW V) (mH : MH ν V) (hy : y < 23) : Ok (f_X11_starts 181 (nI y) ν) (fun _ ν' => Kx (Px y) BN ν ν' ∧ MSt ν' y V (S0 V) 0 (-1)) := by
  have h8 : V.1 2 ≤ 8 := hV.2.2.1
  unfold f_X11_starts
  simp only [Nat.reduceAdd, gd_t (show ixo (nI y) 23 from ixN hy (by omega)), nI_clamp (show y < 2 ^ 31 by omega)]
  rw [Ok_vl, Ok_vl, Ok_vl]
  generalize hν0 : sI (sI (sI ν 203 y 0) 204 y ((sI ν 203 y 0).1 183 5)) 205 y 0 = ν0
  have K0 : Kx (Px y) BN ν ν0 := by
    subst hν0
    exact ((Kx.rfl'.sI (Or.inl ⟨by omega, by omega, rfl⟩)).sI (Or.inl ⟨by omega, by omega, rfl⟩)).sI (Or.inl ⟨by omega, by omega, rfl⟩)
  have c0 : ν0.1 203 y = 0 ∧ ν0.1 205 y = 0 := by
    subst hν0
    constructor <;> simp [sI_i]
  rw [Ok_bd]
  refine Ok.mono (Q := fun u (q : Int32 × fMem) => Kx (Px y) BN ν q.2 ∧ (q.2.1 203 y = 0 ∧ q.2.1 205 y = 0) ∧ ∀ j, j < 8 → q.2.1 206 (8 * y + j) = (if j < V.1 2 then V.2.1 0 j else 0) ∧ q.2.1 207 (8 * y + j) = 0 ∧ q.2.1 208 (8 * y + j) = 0) (Ok_lp 8 (fun i (q : Int32 × fMem) => q.1 = nI i ∧ Kx (Px y) BN ν q.2 ∧ (q.2.1 203 y = 0 ∧ q.2.1 205 y = 0) ∧ ∀ j, j < i → q.2.1 206 (8 * y + j) = (if j < V.1 2 then V.2.1 0 j else 0) ∧ q.2.1 207 (8 * y + j) = 0 ∧ q.2.1 208 (8 * y + j) = 0) (by omega) ⟨rfl, K0, c0, fun j hj => by omega⟩ ?_) ?_
  · rintro i ⟨z, ν1⟩ hi ⟨hz, K1, d1, d2⟩
    dsimp only at hz K1 d1 d2 ⊢
    subst hz
    unfold f_X11_starts_L28 f_X11_starts_j64
    rcases Nat.lt_or_ge i 8 with q | q
    · have n2 : ν1.1 183 2 = nI (V.1 2) := by rw [K1.2.1 183 2 (by unfold Px; omega)]; exact mH.1 2 (by omega)
      simp only [Nat.reduceAdd, if_neg (show ¬ 8 ≤ nI i from nI_ge (b := 8) q (by omega)), e8x, gd_t (show ixo (nI (8 * y + i)) 184 from ixN (by omega) (by omega)), nI_clamp (show 8 * y + i < 2 ^ 31 by omega), n2, gd_t (show ixo (nI i) 16 from ixN (by omega) (by omega)), nI_clamp (show i < 2 ^ 31 by omega)]
      have fin : ∀ v, v = (if i < V.1 2 then V.2.1 0 i else 0) → Ok (vl (sI ν1 206 (8 * y + i) v) fun μ10 => vl (sI μ10 207 (8 * y + i) 0) fun μ12 => vl (sI μ12 208 (8 * y + i) 0) fun μ14 => vl (nI i + 1) fun x16 => some (0, (x16, μ14))) (fun t s' => (t = 0 ∧ i < 8 ∧ s'.1 = nI (i + 1) ∧ Kx (Px y) BN ν s'.2 ∧ (s'.2.1 203 y = 0 ∧ s'.2.1 205 y = 0) ∧ ∀ j, j < i + 1 → s'.2.1 206 (8 * y + j) = (if j < V.1 2 then V.2.1 0 j else 0) ∧ s'.2.1 207 (8 * y + j) = 0 ∧ s'.2.1 208 (8 * y + j) = 0) ∨ ∃ u, t = u + 1 ∧ Kx (Px y) BN ν s'.2 ∧ (s'.2.1 203 y = 0 ∧ s'.2.1 205 y = 0) ∧ ∀ j, j < 8 → s'.2.1 206 (8 * y + j) = (if j < V.1 2 then V.2.1 0 j else 0) ∧ s'.2.1 207 (8 * y + j) = 0 ∧ s'.2.1 208 (8 * y + j) = 0) := by
        intro v hv
        rw [Ok_vl, Ok_vl, Ok_vl, Ok_vl, nI_1, Ok_some]
        refine Or.inl ⟨rfl, q, rfl, ((K1.sI (Or.inr (Or.inl ⟨by omega, by omega, by omega, by omega⟩))).sI (Or.inr (Or.inl ⟨by omega, by omega, by omega, by omega⟩))).sI (Or.inr (Or.inl ⟨by omega, by omega, by omega, by omega⟩)), ?_, fun j hj => ?_⟩
        · simp only [sI_i, show ¬ (203 = 206 ∧ y = 8 * y + i) by omega, show ¬ (203 = 207 ∧ y = 8 * y + i) by omega, show ¬ (203 = 208 ∧ y = 8 * y + i) by omega, show ¬ (205 = 206 ∧ y = 8 * y + i) by omega, show ¬ (205 = 207 ∧ y = 8 * y + i) by omega, show ¬ (205 = 208 ∧ y = 8 * y + i) by omega, if_false]
          exact d1
        · by_cases e : j = i
          · subst e
            simp [sI_i, hv]
          · have h := d2 j (by omega)
            simp only [sI_i, show ¬ (8 * y + j = 8 * y + i) by omega, and_false, if_false]
            exact h
      rcases Nat.lt_or_ge i (V.1 2) with qi | qi
      · rw [if_neg (nI_ge qi (by omega))]
        exact fin _ (by rw [if_pos qi, K1.2.1 188 i (by unfold Px; omega)]; exact (mH.2.2.1 i qi).1)
      · rw [if_pos (nI_le qi (by omega))]
        exact fin _ (by rw [if_neg (by omega)])
    · rw [if_pos (show 8 ≤ nI i from nI_le (a := 8) q (by omega)), Ok_some]
      have : i = 8 := by omega
      subst this
      exact Or.inr ⟨0, rfl, K1, d1, d2⟩
  · rintro u ⟨z, ν1⟩ ⟨K1, d1, d2⟩
    dsimp only at K1 d1 d2 ⊢
    rw [Ok_bd]
    refine Ok.mono (Q := fun u (q : Int32 × fMem) => Kx (Px y) BN ν q.2 ∧ (q.2.1 203 y = 0 ∧ q.2.1 205 y = 0) ∧ (∀ j, j < 8 → q.2.1 206 (8 * y + j) = (if j < V.1 2 then V.2.1 0 j else 0) ∧ q.2.1 207 (8 * y + j) = 0 ∧ q.2.1 208 (8 * y + j) = 0) ∧ ∀ j, j < 6 → q.2.1 209 (6 * y + j) = 0 ∧ q.2.1 210 (6 * y + j) = 0) (Ok_lp 6 (fun i (q : Int32 × fMem) => q.1 = nI i ∧ Kx (Px y) BN ν q.2 ∧ (q.2.1 203 y = 0 ∧ q.2.1 205 y = 0) ∧ (∀ j, j < 8 → q.2.1 206 (8 * y + j) = (if j < V.1 2 then V.2.1 0 j else 0) ∧ q.2.1 207 (8 * y + j) = 0 ∧ q.2.1 208 (8 * y + j) = 0) ∧ ∀ j, j < i → q.2.1 209 (6 * y + j) = 0 ∧ q.2.1 210 (6 * y + j) = 0) (by omega) ⟨rfl, K1, d1, d2, fun j hj => by omega⟩ ?_) ?_
    · rintro i ⟨z, ν2⟩ hi ⟨hz, K2, b1, b2, b3⟩
      dsimp only at hz K2 b1 b2 b3 ⊢
      subst hz
      unfold f_X11_starts_L97
      rcases Nat.lt_or_ge i 6 with q | q
      · simp only [Nat.reduceAdd, if_neg (show ¬ 6 ≤ nI i from nI_ge (b := 6) q (by omega)), e6x, gd_t (show ixo (nI (6 * y + i)) 138 from ixN (by omega) (by omega)), nI_clamp (show 6 * y + i < 2 ^ 31 by omega)]
        rw [Ok_vl, Ok_vl, Ok_vl, nI_1, Ok_some]
        refine Or.inl ⟨rfl, q, rfl, (K2.sI (Or.inr (Or.inr ⟨by omega, by omega, by omega, by omega⟩))).sI (Or.inr (Or.inr ⟨by omega, by omega, by omega, by omega⟩)), ?_, fun j hj => ?_, fun j hj => ?_⟩
        · simp only [sI_i, show ∀ a, ¬ (203 = 209 ∧ a) from fun a => by omega, show ∀ a, ¬ (203 = 210 ∧ a) from fun a => by omega, show ∀ a, ¬ (205 = 209 ∧ a) from fun a => by omega, show ∀ a, ¬ (205 = 210 ∧ a) from fun a => by omega, if_false]
          exact b1
        · have h := b2 j hj
          simp only [sI_i, show ¬ (206 = 209 ∧ 8 * y + j = 6 * y + i) by omega, show ¬ (206 = 210 ∧ 8 * y + j = 6 * y + i) by omega, show ¬ (207 = 209 ∧ 8 * y + j = 6 * y + i) by omega, show ¬ (207 = 210 ∧ 8 * y + j = 6 * y + i) by omega, show ¬ (208 = 209 ∧ 8 * y + j = 6 * y + i) by omega, show ¬ (208 = 210 ∧ 8 * y + j = 6 * y + i) by omega, if_false]
          exact h
        · by_cases e : j = i
          · subst e
            simp [sI_i]
          · have h := b3 j (by omega)
            simp only [sI_i, show ¬ (6 * y + j = 6 * y + i) by omega, and_false, if_false]
            exact h
      · rw [if_pos (show 6 ≤ nI i from nI_le (a := 6) q (by omega)), Ok_some]
        have : i = 6 := by omega
        subst this
        exact Or.inr ⟨0, rfl, K2, b1, b2, b3⟩
    · rintro u ⟨z, ν2⟩ ⟨K2, b1, b2, b3⟩
      refine Ok_some.mpr ⟨K2, fun j hj => ?_, fun j hj => (b2 j hj).2.1, fun j hj => (b2 j hj).2.2, fun j hj => (b3 j hj).1, fun j hj => (b3 j hj).2, ?_, b1.1⟩
      · rw [if_neg (fun q => absurd q.1 (by decide)), (b2 j (by omega)).1, if_pos hj]; rfl
      · rw [if_neg (by decide)]; exact b1.2
theorem sumOf_eq (mH : MH ν V) (hV : HW V) {k : Nat} (hx : x < 23) (hk : k = 207 ∨ k = 208) : f_X11_sumOf 181 k (nI x) ν = some (sumN (V.1 2) (fun t => ν.1 k (8 * x + t)), ν) := by
  have h8 : V.1 2 ≤ 8 := hV.2.2.1
  have hkd : (kd k).2 = 184 := by rcases hk with rfl | rfl <;> decide
  have key : Ok (f_X11_sumOf 181 k (nI x) ν) (fun z ν' => z = sumN (V.1 2) (fun t => ν.1 k (8 * x + t)) ∧ ν' = ν) := by
    unfold f_X11_sumOf
    rw [Ok_bd]
    refine Ok.mono (Q := fun u (q : Int32 × Int32 × fMem) => q.1 = sumN (V.1 2) (fun t => ν.1 k (8 * x + t)) ∧ q.2.2 = ν) (Ok_lp (V.1 2) (fun i (q : Int32 × Int32 × fMem) => q.2.1 = nI i ∧ q.1 = sumN i (fun t => ν.1 k (8 * x + t)) ∧ q.2.2 = ν) (by omega) ⟨rfl, rfl, rfl⟩ ?_) ?_
    · rintro i ⟨n, z, ν1⟩ hi ⟨hz, hn, hm⟩
      dsimp only at hz hn hm ⊢
      subst hz hn hm
      unfold f_X11_sumOf_L5
      simp only [Nat.reduceAdd]
      rw [mH.1 2 (by omega), hkd]
      rcases Nat.lt_or_ge i (V.1 2) with q | q
      · rw [if_neg (nI_ge q (by omega)), e8x, gd_t (ixN (by omega) (by omega)), nI_clamp (by omega), Ok_vl, Ok_vl, nI_1, Ok_some]
        exact Or.inl ⟨rfl, q, rfl, rfl, rfl⟩
      · rw [if_pos (nI_le q (by omega)), Ok_some]
        have : i = V.1 2 := by omega
        subst this
        exact Or.inr ⟨0, rfl, rfl, rfl⟩
    · rintro u ⟨n, z, ν1⟩ h
      exact Ok_some.mpr h
  obtain ⟨a, b, e, rfl, rfl⟩ := key
  exact e
theorem sumOf7 (mH : MH ν V) (hV : HW V) (H : MSt ν x V S tw ti) (hx : x < 23) : f_X11_sumOf 181 207 (nI x) ν = some (sumN (V.1 2) (S 1), ν) := by
  have h8 : V.1 2 ≤ 8 := hV.2.2.1
  rw [sumOf_eq mH hV hx (Or.inl rfl), sumN_congr (fun i hi => H.2.1 i (by omega))]
theorem sumOf8 (mH : MH ν V) (hV : HW V) (H : MSt ν x V S tw ti) (hx : x < 23) : f_X11_sumOf 181 208 (nI x) ν = some (sumN (V.1 2) (S 2), ν) := by
  have h8 : V.1 2 ≤ 8 := hV.2.2.1
  rw [sumOf_eq mH hV hx (Or.inr rfl), sumN_congr (fun i hi => H.2.2.1 i (by omega))]
def stS (V : HV) (S : SV) : Int32 := sumN (V.1 2) (S 1) + sumN (V.1 2) (S 2)
theorem stirs_eq (mH : MH ν V) (hV : HW V) (H : MSt ν x V S tw ti) (hx : x < 23) : f_X11_stirs 181 (nI x) ν = some (stS V S, ν) := by
  unfold f_X11_stirs
  simp only [Nat.reduceAdd]
  rw [sumOf7 mH hV H hx, bd_some, sumOf8 mH hV H hx, bd_some]
  rfl
/-- the things in a room, as bits -/
def thS (V : HV) (S : SV) (r : Int32) : Int32 := orN (fun t => decide (S 0 t = r)) (V.1 2)
theorem thingsInM_eq (mH : MH ν V) (hV : HW V) (H : MSt ν 0 V S 0 (-1)) (r : Int32) : f_X11_thingsIn 181 0 r ν = some (thS V S r, ν) := by
  have h8 : V.1 2 ≤ 8 := hV.2.2.1
  have key : Ok (f_X11_thingsIn 181 0 r ν) (fun z ν' => z = thS V S r ∧ ν' = ν) := by
    unfold f_X11_thingsIn
    rw [Ok_bd]
    refine Ok.mono (Q := fun u (q : Int32 × Int32 × fMem) => q.1 = thS V S r ∧ q.2.2 = ν) (Ok_lp (V.1 2) (fun i (q : Int32 × Int32 × fMem) => q.2.1 = nI i ∧ q.1 = orN (fun t => decide (S 0 t = r)) i ∧ q.2.2 = ν) (by omega) ⟨rfl, rfl, rfl⟩ ?_) ?_
    · rintro i ⟨n, z, ν1⟩ hi ⟨hz, hn, hm⟩
      dsimp only at hz hn hm ⊢
      subst hz hn hm
      unfold f_X11_thingsIn_L5
      simp only [Nat.reduceAdd]
      rw [mH.1 2 (by omega)]
      rcases Nat.lt_or_ge i (V.1 2) with q | q
      · have hS := H.1 i q
        rw [if_neg (fun z => absurd z.1 (by decide)), show 8 * 0 + i = i by omega] at hS
        have un : orN (fun t => decide (S 0 t = r)) (i + 1) = if decide (S 0 i = r) = true then orN (fun t => decide (S 0 t = r)) i ||| shl 1 (nI i) else orN (fun t => decide (S 0 t = r)) i := rfl
        rw [if_neg (nI_ge q (by omega)), show (8 : Int32) * 0 + nI i = nI i by rw [show (8 : Int32) * 0 = 0 by decide, Int32.zero_add], gd_t (ixN (by omega) (by omega)), nI_clamp (by omega), hS]
        by_cases c : S 0 i = r
        · rw [if_pos c, Ok_vl, Ok_vl, nI_1, Ok_some]
          exact Or.inl ⟨rfl, q, rfl, by rw [un, if_pos (decide_eq_true c)], rfl⟩
        · rw [if_neg c, Ok_vl, Ok_vl, nI_1, Ok_some]
          exact Or.inl ⟨rfl, q, rfl, by rw [un, if_neg (by simp [c])]; exact Int32.or_zero, rfl⟩
      · rw [if_pos (nI_le q (by omega)), Ok_some]
        have : i = V.1 2 := by omega
        subst this
        exact Or.inr ⟨0, rfl, rfl, rfl⟩
    · rintro u ⟨n, z, ν1⟩ h
      exact Ok_some.mpr h
  obtain ⟨a, b, e, rfl, rfl⟩ := key
  exact e
/-- how many bits -/
def bcS (x : Int32) : Int32 := sumN 10 (fun k => shr x (nI k) &&& 1)
theorem bitsOf_eq (v : Int32) (ν : fMem) : f_X11_bitsOf v ν = some (bcS v, ν) := by
  have key : Ok (f_X11_bitsOf v ν) (fun z ν' => z = bcS v ∧ ν' = ν) := by
    unfold f_X11_bitsOf
    rw [Ok_bd]
    refine Ok.mono (Q := fun u (q : Int32 × Int32 × fMem) => q.1 = bcS v ∧ q.2.2 = ν) (Ok_lp 10 (fun i (q : Int32 × Int32 × fMem) => q.2.1 = nI i ∧ q.1 = sumN i (fun k => shr v (nI k) &&& 1) ∧ q.2.2 = ν) (by omega) ⟨rfl, rfl, rfl⟩ ?_) ?_
    · rintro i ⟨n, z, ν1⟩ hi ⟨hz, hn, hm⟩
      dsimp only at hz hn hm ⊢
      subst hz hn hm
      unfold f_X11_bitsOf_L4
      rcases Nat.lt_or_ge i 10 with q | q
      · rw [if_neg (show ¬ 10 ≤ nI i from nI_ge (b := 10) q (by omega)), Ok_vl, Ok_vl, nI_1, Ok_some]
        exact Or.inl ⟨rfl, q, rfl, rfl, rfl⟩
      · rw [if_pos (show 10 ≤ nI i from nI_le (a := 10) q (by omega)), Ok_some]
        have : i = 10 := by omega
        subst this
        exact Or.inr ⟨0, rfl, rfl, rfl⟩
    · rintro u ⟨n, z, ν1⟩ h
      exact Ok_some.mpr h
  obtain ⟨a, b, e, rfl, rfl⟩ := key
  exact e
def bcJ (v0 : Int32) : Int32 :=
  let x1 := v0 - ((ushr v0 (1 : Int32)) &&& (1431655765 : Int32))
  let x2 := (x1 &&& (858993459 : Int32)) + ((ushr x1 (2 : Int32)) &&& (858993459 : Int32))
  let x3 := (x2 + (ushr x2 (4 : Int32))) &&& (252645135 : Int32)
  let x4 := x3 + (ushr x3 (8 : Int32))
  let x5 := x4 + (ushr x4 (16 : Int32))
  x5 &&& 63
theorem bcJ_eq : ∀ m, m < 256 → bcJ (nI m) = bcS (nI m) := by decide +kernel
theorem bitCount_eq {m : Nat} (hm : m < 256) (μ : fMem) : f_J6_bitCount_0f7a4 (nI m) μ = some (bcS (nI m), μ) := by
  rw [← bcJ_eq m hm]
  rfl
def cnt (p : Nat → Bool) : Nat → Nat
  | 0 => 0
  | n + 1 => if p n = true then cnt p n + 1 else cnt p n
theorem or_step : ∀ n, n < 8 → ∀ m, m < 2 ^ n → nI m ||| shl 1 (nI n) = nI (m + 2 ^ n) ∧ bcS (nI (m + 2 ^ n)) = bcS (nI m) + 1 := by decide +kernel
theorem orN_val (p : Nat → Bool) : ∀ n, n ≤ 8 → ∃ m, m < 2 ^ n ∧ orN p n = nI m ∧ bcS (nI m) = nI (cnt p n)
  | 0, _ => ⟨0, by decide, rfl, show bcS (nI 0) = nI 0 by decide +kernel⟩
  | n + 1, h => by
    obtain ⟨m, hm, e, c⟩ := orN_val p n (by omega)
    obtain ⟨s1, s2⟩ := or_step n (by omega) m hm
    have hp : 2 ^ (n + 1) = 2 ^ n + 2 ^ n := by rw [Nat.pow_succ]; omega
    unfold orN cnt
    by_cases q : p n = true
    · rw [if_pos q, if_pos q, e, s1]
      exact ⟨m + 2 ^ n, by omega, rfl, by rw [s2, c, nI_1]⟩
    · rw [if_neg q, if_neg q]
      exact ⟨m, by omega, e, c⟩
theorem orN_256 (p : Nat → Bool) {n : Nat} (h : n ≤ 8) : ∃ m, m < 256 ∧ orN p n = nI m ∧ bcS (nI m) = nI (cnt p n) := by
  obtain ⟨m, hm, e⟩ := orN_val p n h
  exact ⟨m, Nat.lt_of_lt_of_le hm (Nat.pow_le_pow_right (by decide) h), e⟩
theorem bitCount_or (p : Nat → Bool) {n : Nat} (h : n ≤ 8) (μ : fMem) : f_J6_bitCount_0f7a4 (orN p n) μ = some (bcS (orN p n), μ) := by
  obtain ⟨m, hm, e, -⟩ := orN_256 p h
  rw [e, bitCount_eq hm]
theorem bcS_or (p : Nat → Bool) {n : Nat} (h : n ≤ 8) : bcS (orN p n) = nI (cnt p n) := by
  obtain ⟨m, hm, e, c⟩ := orN_256 p h
  rw [e, c]
theorem orN_ext {p : Nat → Bool} {n : Nat} : ∀ {m : Nat}, n ≤ m → (∀ i, n ≤ i → i < m → p i = false) → orN p m = orN p n
  | 0, h, _ => by rw [show n = 0 by omega]
  | m + 1, h, hp => by
    by_cases q : n = m + 1
    · rw [q]
    · show (if p m = true then orN p m ||| shl 1 (nI m) else orN p m) = orN p n
      rw [if_neg (by rw [hp m (by omega) (by omega)]; decide)]
      exact orN_ext (by omega) (fun i a b => hp i a (by omega))
theorem isRoom_eq (mH : MH ν V) (n : Int32) : f_X11_isRoom 181 n ν = some ((if hs (V.1 0) n then 1 else 0), ν) := by
  unfold f_X11_isRoom
  simp only [Nat.reduceAdd, mH.1 0 (by omega), gd_t (Or.inl rfl : bl 0), gd_t (Or.inr rfl : bl 1)]
  by_cases h1 : n < 0
  · rw [if_pos h1, if_neg (fun q => q.1 h1)]
  · by_cases h2 : nI (V.1 0) ≤ n
    · rw [if_neg h1, if_pos h2, if_neg (fun q => q.2 h2)]
    · rw [if_neg h1, if_neg h2, if_pos ⟨h1, h2⟩]
theorem isThing_eq (mH : MH ν V) (n : Int32) : f_X11_isThing 181 n ν = some ((if hs (V.1 2) n then 1 else 0), ν) := by
  unfold f_X11_isThing
  simp only [Nat.reduceAdd, mH.1 2 (by omega), gd_t (Or.inl rfl : bl 0), gd_t (Or.inr rfl : bl 1)]
  by_cases h1 : n < 0
  · rw [if_pos h1, if_neg (fun q => q.1 h1)]
  · by_cases h2 : nI (V.1 2) ≤ n
    · rw [if_neg h1, if_pos h2, if_neg (fun q => q.2 h2)]
    · rw [if_neg h1, if_neg h2, if_pos ⟨h1, h2⟩]
theorem isDead_eq (mH : MH ν V) (n : Int32) : f_X11_isDead 181 n ν = some ((if hs (V.1 3) n then 1 else 0), ν) := by
  unfold f_X11_isDead
  simp only [Nat.reduceAdd, mH.1 3 (by omega), gd_t (Or.inl rfl : bl 0), gd_t (Or.inr rfl : bl 1)]
  by_cases h1 : n < 0
  · rw [if_pos h1, if_neg (fun q => q.1 h1)]
  · by_cases h2 : nI (V.1 3) ≤ n
    · rw [if_neg h1, if_pos h2, if_neg (fun q => q.2 h2)]
    · rw [if_neg h1, if_neg h2, if_pos ⟨h1, h2⟩]
/-- the first of n names that is this one -/
theorem found_eq {k from0 n N : Nat} {nm : Int32} (hk : kd k = (0, N)) (hN : from0 + n ≤ N) (hN2 : N < 2000) : f_X11_found k (nI from0) (nI n) nm ν = some (oI (fnd (fun j => decide (ν.1 k (from0 + j) = nm)) n), ν) := by
  have key : Ok (f_X11_found k (nI from0) (nI n) nm ν) (fun z ν' => z = oI (fnd (fun j => decide (ν.1 k (from0 + j) = nm)) n) ∧ ν' = ν) := by
    unfold f_X11_found
    rw [Ok_bd]
    refine Ok.mono (Q := fun u (q : Int32 × fMem) => q.2 = ν ∧ ((u = 0 ∧ fnd (fun j => decide (ν.1 k (from0 + j) = nm)) n = none) ∨ (¬ u = 0 ∧ ∃ b, fnd (fun j => decide (ν.1 k (from0 + j) = nm)) n = some b ∧ q.1 = nI b))) (Ok_lp n (fun i (q : Int32 × fMem) => q.1 = nI i ∧ q.2 = ν ∧ fnd (fun j => decide (ν.1 k (from0 + j) = nm)) i = none) (by omega) ⟨rfl, rfl, rfl⟩ ?_) ?_
    · rintro i ⟨z, ν1⟩ hi ⟨hz, hm, hn⟩
      dsimp only at hz hm hn ⊢
      subst hz hm
      unfold f_X11_found_L3
      rcases Nat.lt_or_ge i n with q | q
      · rw [if_neg (nI_ge q (by omega)), nI_add, hk, gd_t (ixN (by omega) (by omega)), nI_clamp (by omega)]
        by_cases c : ν1.1 k (from0 + i) = nm
        · rw [if_pos c, Ok_some]
          exact Or.inr ⟨1, rfl, rfl, Or.inr ⟨by decide, i, fnd_le (a := 0) hn (decide_eq_true c) _ q, rfl⟩⟩
        · rw [if_neg c, Ok_vl, nI_1, Ok_some]
          refine Or.inl ⟨rfl, q, rfl, rfl, ?_⟩
          unfold fnd
          rw [hn]
          simp [c]
      · rw [if_pos (nI_le q (by omega)), Ok_some]
        have : i = n := by omega
        subst this
        exact Or.inr ⟨0, rfl, rfl, Or.inl ⟨rfl, hn⟩⟩
    · rintro u ⟨z, ν1⟩ ⟨hm, hq⟩
      dsimp only at hm hq ⊢
      subst hm
      rcases hq with ⟨rfl, hn⟩ | ⟨hu, b, hb, rfl⟩
      · rw [if_pos rfl, Ok_some, hn]; exact ⟨rfl, rfl⟩
      · rw [if_neg hu, Ok_some, hb]; exact ⟨rfl, rfl⟩
  obtain ⟨a, b, e, rfl, rfl⟩ := key
  exact e
theorem fnd_congr {p q : Nat → Bool} : ∀ {n : Nat}, (∀ i, i < n → p i = q i) → fnd p n = fnd q n
  | 0, _ => rfl
  | n + 1, h => by
    unfold fnd
    rw [fnd_congr (fun i hi => h i (by omega)), h n (by omega)]
end Ref4
