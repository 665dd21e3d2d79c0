/-! a line, both beside each other -/
def LJ (b : Nat → Nat) (N : Nat) (t : TQ) (K y : Nat) (μ ν : fMem) (k : Nat) (r : Int32) (μ' ν' : fMem) : Prop := Kx (fun k _ => PCc y k) BN μ μ' ∧ Kx AP BN ν ν' ∧ ((∃ x : Nat × Nat, r = 0 ∧ μ'.1 30 0 = nI x.1 ∧ μ'.1 30 1 = nI (t x.2).2.1 ∧ RS b N t K ν' (some x) 0) ∨ ∃ k', r = 1 ∧ k < k' ∧ CT μ' t K k' ∧ (μ'.1 y 1 = μ.1 y 1 ∧ μ'.1 30 0 = μ.1 30 0 ∧ μ'.1 30 1 = μ.1 30 1) ∧ ((¬ (t k').1 = 24 ∧ RS b N t K ν' (some (1, k')) 0) ∨ ((t k').1 = 24 ∧ RS b N t K ν' none (k' + 1) ∧ ν'.1 181 22 = ν.1 181 22 + 1 ∧ ∃ c' D' L', JB μ' y ν' c' D' L')))
section LineJ
variable {b : Nat → Nat} {N : Nat} {t : TQ} {K k : Nat} {μ ν : fMem} {y : Nat} {c : Nat → Nat} {D : Nat → Nat → Bool} {L : Nat → List (Int32 × Int32)}
theorem most_lt : ∀ w, w < 6 → mostT.getD w 0 = nI ([6, 9, 8, 6, 9, 1].getD w 0) := by decide
/-- the class' line begins -/
theorem cline (hy : y = 2 ∨ y = 37) (hr : μ.2.2 30 3 = y) (hK : K ≤ 700) (hE : (t K).1 = 22) (h36 : (t k).1 ≤ 36) (T : CT μ t K k) (hcs : ∀ w, w < 6 → μ.1 (y + 1) w = nI (c w)) (hc9 : ∀ w, w < 6 → c w < 100) {Q : Int32 → fMem → Prop} (h6 : (t k).1 = 6 → Ok (f_X5_readLaw 30 μ) (fun r μ' => bl r ∧ Q r μ')) (hbad : ∀ x μ', CFx y μ μ' t x 0 → ((6 < (t k).1 ∧ x = (1, k)) ∨ ((t k).1 < 6 ∧ mostT.getD (t k).1 0 ≤ nI (c (t k).1) ∧ x = (if (t k).1 = 5 then 3 else 2, k))) → Q 0 μ') (hgo : (t k).1 < 6 → ¬ mostT.getD (t k).1 0 ≤ nI (c (t k).1) → ∀ μ1, Kx AX1 BN μ μ1 → CT μ1 t K (k + 1) → Ok (f_X5_readRest 30 (nI (t k).1) (nI (c (t k).1)) μ1) (fun r μ2 => (r = 0 ∧ Q 0 μ2) ∨ (r = 1 ∧ μ2.2.2 30 3 = y ∧ Q 1 (sI μ2 (y + 1) (t k).1 (μ2.1 (y + 1) (t k).1 + 1))))) : Ok (f_X5_readLine 30 μ) Q := by
  unfold f_X5_readLine f_X5_readLine_j28 f_X5_readLine_j61
  simp only [Nat.reduceAdd]
  rw [Ok_vl, T.2.2.2.1]
  by_cases c6 : (t k).1 = 6
  · rw [if_pos (show nI (t k).1 = 6 by rw [c6]; rfl), Ok_bd]
    refine (h6 c6).mono ?_
    rintro r μ1 ⟨hb, hq⟩
    rw [gd_t hb, Ok_some]
    exact hq
  · rw [if_neg (show ¬ nI (t k).1 = 6 from fun q => c6 ((nI_eq (b := 6) (by omega) (by decide)).mp q)), if_neg (show ¬ nI (t k).1 < 0 from nI_pos (by omega))]
    rcases Nat.lt_or_ge 5 (t k).1 with z | z
    · rw [if_neg (show ¬ nI (t k).1 ≤ 5 from nI_ge (a := 5) z (by omega))]
      exact cfail (y := y) T 1 fun μ' h => hbad _ μ' (h.x (by decide) (by decide) Kx.rfl') (Or.inl ⟨by omega, rfl⟩)
    · have hlt : k < K := Nat.lt_of_le_of_ne T.2.1 (fun w => by rw [← w] at hE; omega)
      have told : ∀ m : fMem, (m.1 (y + 1) (t k).1 = nI (c (t k).1)) → f_X2_told y (nI (t k).1) m = some (nI (c (t k).1), m) := by
        intro m hm
        unfold f_X2_told
        rw [if_neg (nI_pos (by omega)), if_neg (show ¬ 6 ≤ nI (t k).1 from nI_ge (b := 6) (by omega) (by decide)), gd_t (ixN (by omega) (by decide)), nI_clamp (by omega), hm]
      rw [if_pos (show nI (t k).1 ≤ 5 from nI_le (b := 5) z (by decide)), Ok_vl, hr, gd_t (kd2 hy), told μ (hcs _ (by omega)), bd_some]
      simp only [gd_t (show ixo (nI (t k).1) 6 from ixN (by omega) (by decide)), nI_clamp (show (t k).1 < 2 ^ 31 by omega)]
      by_cases cm : mostT.getD (t k).1 0 ≤ nI (c (t k).1)
      · have : ¬ nI (c (t k).1) < mostT.getD (t k).1 0 := Int32.not_lt.mpr cm
        rw [if_neg this]
        by_cases c5 : (t k).1 = 5
        · rw [if_pos (show nI (t k).1 = 5 by rw [c5]; rfl)]
          exact cfail (y := y) T 3 fun μ' h => hbad _ μ' (h.x (by decide) (by decide) Kx.rfl') (Or.inr ⟨by omega, cm, by rw [if_pos c5]⟩)
        · rw [if_neg (show ¬ nI (t k).1 = 5 from fun q => c5 ((nI_eq (b := 5) (by omega) (by decide)).mp q))]
          exact cfail (y := y) T 2 fun μ' h => hbad _ μ' (h.x (by decide) (by decide) Kx.rfl') (Or.inr ⟨by omega, cm, by rw [if_neg c5]⟩)
      · have : nI (c (t k).1) < mostT.getD (t k).1 0 := Int32.not_le.mp cm
        rw [if_pos this, Ok_bd]
        refine (next_spec hK T hlt).mono ?_
        rintro - μ1 ⟨K1, T1⟩
        rw [Ok_vl, K1.1, hr, gd_t (kd2 hy), told μ1 (by rw [K1.2.1 _ _ (by omega)]; exact hcs _ (by omega)), bd_some, Ok_bd]
        refine (hgo (by omega) cm μ1 K1 T1).mono ?_
        rintro r μ2 (⟨rfl, hq⟩ | ⟨rfl, hr2, hq⟩)
        · rw [if_pos rfl, gd_t (Or.inl rfl), Ok_some]
          exact hq
        · rw [if_neg (by decide), Ok_vl, hr2, gd_t (kd2 hy), Ok_vl, gd_t (Or.inr rfl), Ok_some]
          exact hq
theorem bl_gd {r : Int32} {μ' : fMem} {Q : Int32 → fMem → Prop} (h : r = 0 ∨ r = 1) (hq : Q r μ') : Ok (gd (bl r) (some (r, μ'))) Q := by
  rw [gd_t (show bl r from h), Ok_some]
  exact hq
abbrev TkOk (t : TQ) : Prop := ∀ j, (t j).1 ≤ 36 ∧ ((t j).1 = 21 → (t j).2.2.1 < 2 ^ 31)
theorem off_le {a j : Nat} (h : (a = 183 ∧ 7 ≤ j) ∨ (a = 184 ∧ 6 ≤ j) ∨ ((a = 185 ∨ a = 186) ∧ 9 ≤ j) ∨ (187 ≤ a ∧ a ≤ 190 ∧ 8 ≤ j) ∨ (191 ≤ a ∧ a ≤ 195 ∧ 6 ≤ j) ∨ (a = 196 ∧ 9 ≤ j) ∨ ((a = 197 ∨ a = 198) ∧ 3 ≤ j) ∨ ((a = 199 ∨ a = 200) ∧ 64 ≤ j)) : AP a j := by
  refine Or.inr ⟨by omega, by omega, ?_⟩
  unfold off
  split
  · omega
  · split
    · omega
    · split
      · omega
      · split
        · omega
        · split
          · omega
          · split
            · omega
            · split <;> omega
theorem AGx_AP {a j : Nat} (h : AGx a j ∨ (a = 181 ∧ (j = 21 ∨ j = 22 ∨ j = 32 ∨ j = 33))) : AP a j := Or.inl (by omega)
/-- both results of a line of few words put together -/
theorem LJ.mk {r : Int32} {μ' ν' : fMem} {F : Option (Nat × Nat)} {A : Nat → Nat → Prop} {tl : Int32} {P : fMem → Prop} {k' : Nat} (hA : ∀ a j, A a j → AP a j) (hkk : k < k') (hC : (F = none ∧ r = 1 ∧ CT μ' t K k' ∧ Kx (fun k _ => PCc y k) BN μ μ' ∧ (μ'.1 y 1 = μ.1 y 1 ∧ μ'.1 30 0 = μ.1 30 0 ∧ μ'.1 30 1 = μ.1 30 1)) ∨ ∃ x, F = some x ∧ CFx y μ μ' t x r) (hR : Qg b N t K A tl P F k' ν ν') (hJ : F = none → r = 1 → ν'.1 181 21 = tl → P ν' → (∀ a j, ¬ (A a j ∨ (a = 181 ∧ j = 22)) → ν'.1 a j = ν.1 a j) → ∃ c' D' L', JB μ' y ν' c' D' L') : LJ b N t K y μ ν k r μ' ν' := by
  obtain ⟨K1, hR⟩ := hR
  have KA : Kx AP BN ν ν' := K1.wide (fun a j h => h.elim (hA a j) (fun z => AGx_AP (Or.inr ⟨z.1, by omega⟩))) (fun _ _ h => h)
  rcases hC with ⟨hF, hr1, T1, K2, e1⟩ | ⟨x, hF, h0, K2, e0, e1, -, -⟩
  · refine ⟨K2, KA, Or.inr ⟨k', hr1, hkk, T1, e1, ?_⟩⟩
    rcases hR with ⟨x, hx, -⟩ | ⟨-, h24, hS⟩ | ⟨-, h24, hS, e22, e21, hP⟩
    · rw [hF] at hx; cases hx
    · exact Or.inl ⟨h24, hS⟩
    · exact Or.inr ⟨h24, hS, e22, hJ hF hr1 e21 hP (fun a j h => K1.2.1 a j h)⟩
  · refine ⟨K2, KA, Or.inl ⟨x, h0, e0, e1, ?_⟩⟩
    rcases hR with ⟨x', hx, hS⟩ | ⟨hx, -⟩ | ⟨hx, -⟩
    · rw [hF] at hx; cases hx; exact hS
    · rw [hF] at hx; cases hx
    · rw [hF] at hx; cases hx
theorem cup_eq (c : Nat → Nat) (w v : Nat) : cup c w v w = v := if_pos rfl
end LineJ
