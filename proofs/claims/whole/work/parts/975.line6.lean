/-! laws as lines, the line's end, both states while a text is read -/
def off (k : Nat) : Nat := if k = 183 then 7 else if k = 184 then 6 else if k ≤ 186 then 9 else if k ≤ 190 then 8 else if k ≤ 195 then 6 else if k = 196 then 9 else if k ≤ 198 then 3 else 64
def AP (k j : Nat) : Prop := (k = 181 ∧ ((21 ≤ j ∧ j ≤ 29) ∨ j = 32 ∨ j = 33)) ∨ (183 ≤ k ∧ k ≤ 200 ∧ off k ≤ j)
def EVv (M : Nat) (a c : Int32) : Prop := ∃ v, v < M ∧ a = nI v ∧ c = nI v
def JF0 (μ : fMem) (y : Nat) (ν : fMem) (n : Nat) : Prop := ∀ j, j < n → μ.1 (y + 3) j = ν.1 184 (6 + j)
def JF2 (μ : fMem) (y : Nat) (ν : fMem) (m n : Nat) : Prop := ∀ j, j < n → μ.1 (y + 5) j = ν.1 187 (8 + j) ∧ EVv m (μ.1 (y + 8) j) (ν.1 188 (8 + j)) ∧ EVv 6 (μ.1 (y + 9) j) (ν.1 189 (8 + j)) ∧ EVv 10 (μ.1 (y + 10) j) (ν.1 190 (8 + j))
def JF3 (μ : fMem) (y : Nat) (ν : fMem) (n : Nat) : Prop := ∀ j, j < n → μ.1 (y + 6) j = ν.1 191 (6 + j) ∧ EVv 10 (μ.1 (y + 11) j) (ν.1 192 (6 + j)) ∧ EVv 6 (μ.1 (y + 12) j) (ν.1 193 (6 + j)) ∧ EVv 2 (μ.1 (y + 13) j) (ν.1 194 (6 + j)) ∧ EVv 101 (μ.1 (y + 14) j) (ν.1 195 (6 + j))
def JF4 (μ : fMem) (y : Nat) (ν : fMem) (n : Nat) : Prop := ∀ j, j < n → EVv 100 (μ.1 (y + 15) j) (ν.1 196 (9 + j))
def JD (μ : fMem) (y : Nat) (ν : fMem) (m n : Nat) (D : Nat → Nat → Bool) : Prop := (∀ a b, D a b = D b a) ∧ (∀ a, D a a = false) ∧ (∀ a b, D a b = true → a < m ∧ b < m) ∧ (∀ a b, a < 6 → b < 6 → (nbit (μ.1 (y + 7) a) b ↔ D a b = false)) ∧ ∀ a b, a < 6 → b < 6 → (D a b = true ↔ ∃ i, i < n ∧ ((ν.1 185 (9 + i) = nI a ∧ ν.1 186 (9 + i) = nI b) ∨ (ν.1 185 (9 + i) = nI b ∧ ν.1 186 (9 + i) = nI a)))
def JL1 (μ : fMem) (y : Nat) (ν : fMem) (q l : Nat) (M : List (Int32 × Int32)) : Prop := WL M ∧ CL μ (y + 16 + 4 * l) M ∧ ∃ a, ν.1 197 (3 + l) = nI a ∧ ν.1 198 (3 + l) = nI (a + M.length) ∧ a + M.length ≤ q ∧ ∀ i, i < M.length → ∃ p, M[i]? = some p ∧ ν.1 199 (64 + a + i) = (cdm p).1 ∧ ν.1 200 (64 + a + i) = (cdm p).2
def JLw (μ : fMem) (y : Nat) (ν : fMem) (q : Nat) (L : Nat → List (Int32 × Int32)) : Prop := (∀ l, l < 3 → JL1 μ y ν q l (L l)) ∧ Us μ (y + 16) (L 0)
def JN (μ : fMem) (y : Nat) (ν : fMem) (c : Nat → Nat) : Prop := (∀ w, w < 5 → μ.1 (y + 1) w = nI (c w) ∧ ν.1 183 (7 + w) = nI (c w)) ∧ (μ.1 y 2 = nI (c 6) ∧ ν.1 183 13 = nI (c 6) ∧ ν.1 181 33 = nI (c 6) ∧ ν.1 181 32 = 0) ∧ (c 0 ≤ 6 ∧ c 1 ≤ 9 ∧ c 2 ≤ 8 ∧ c 3 ≤ 6 ∧ c 4 ≤ 9 ∧ c 6 ≤ 64)
def JT (μ : fMem) (y : Nat) (ν : fMem) (c : Nat → Nat) (L : Nat → List (Int32 × Int32)) : Prop := (μ.1 (y + 1) 5 = nI (c 5) ∧ c 5 ≤ 1 ∧ (Tb (ν.1 181 21) 5 ↔ c 5 = 1)) ∧ ∀ l, l < 3 → (μ.1 (y + 16 + 4 * l) 0 = if L l = [] then 0 else 1) ∧ (Tb (ν.1 181 21) (16 + l) ↔ ¬ L l = [])
/-- both houses while a text is read -/
def JB (μ : fMem) (y : Nat) (ν : fMem) (c : Nat → Nat) (D : Nat → Nat → Bool) (L : Nat → List (Int32 × Int32)) : Prop := JN μ y ν c ∧ JT μ y ν c L ∧ JF0 μ y ν (c 0) ∧ JF2 μ y ν (c 0) (c 2) ∧ JF3 μ y ν (c 3) ∧ JF4 μ y ν (c 4) ∧ JD μ y ν (c 0) (c 1) D ∧ JLw μ y ν (c 6) L
section Lines
variable {b : Nat → Nat} {N : Nat} {t : TQ} {K k : Nat} {μ ν : fMem} {y : Nat}
theorem j415_spec (T : Toks b N t K) {F : Option (Nat × Nat)} (h : RS b N t K ν F k) : Ok (f_X11_line_j415 181 ν) (fun _ ν' => Kx (fun a j => AGx a j ∨ (a = 181 ∧ j = 22)) BN ν ν' ∧ ((∃ x, F = some x ∧ RS b N t K ν' (some x) 0) ∨ (F = none ∧ ¬ (t k).1 = 24 ∧ RS b N t K ν' (some (1, k)) 0) ∨ (F = none ∧ (t k).1 = 24 ∧ RS b N t K ν' none (k + 1) ∧ ν'.1 181 22 = ν.1 181 22 + 1))) := by
  unfold f_X11_line_j415 f_X11_line_j444
  cases F with
  | some x =>
    rw [if_neg h.ne, Ok_some]
    exact ⟨Kx.rfl', Or.inl ⟨x, rfl, h⟩⟩
  | none =>
    rw [if_pos h.2.2.1, show (59 : Int32) = nI (sgc 24) from rfl, isSign_eq h.2.2.1 h.2.2.2 (by decide), bd_some]
    by_cases c24 : (t k).1 = 24
    · rw [if_pos c24, if_neg (by decide), Ok_bd]
      refine (token_S T h (h.lt T (by omega))).mono ?_
      rintro - ν1 ⟨h1, K1⟩
      rw [Ok_vl, Ok_some]
      have K2 : Kx (fun a j => a = 181 ∧ j = 22) BN ν1 (sI ν1 181 22 (ν1.1 181 22 + 1)) := Kx.rfl'.sI ⟨rfl, rfl⟩
      exact ⟨(K1.wide (fun _ _ h => Or.inl h) (fun _ _ h => h)).trans (K2.wide (fun _ _ h => Or.inr h) (fun _ _ h => h)), Or.inr (Or.inr ⟨rfl, c24, h1.of K2 (fun a j z => by omega), by rw [sI_i, if_pos ⟨rfl, rfl⟩, K1.2.1 _ _ (by omega)]⟩)⟩
    · obtain ⟨ν1, e, h1, K1⟩ := wrong_S h (c := 1) (by decide)
      rw [if_neg c24, if_pos rfl, show f_X11_wrong 181 1 ν = some ((), ν1) from e, bd_some, Ok_vl, Ok_some]
      have K2 : Kx (fun a j => a = 181 ∧ j = 22) BN ν1 (sI ν1 181 22 (ν1.1 181 22 + 1)) := Kx.rfl'.sI ⟨rfl, rfl⟩
      exact ⟨(K1.wide (fun _ _ h => Or.inl h) (fun _ _ h => h)).trans (K2.wide (fun _ _ h => Or.inr h) (fun _ _ h => h)), Or.inr (Or.inl ⟨rfl, c24, (h1 0).of K2 (fun a j z => by omega)⟩)⟩
/-- how the reference's line ends -/
def Qg (b : Nat → Nat) (N : Nat) (t : TQ) (K : Nat) (A : Nat → Nat → Prop) (tl : Int32) (P : fMem → Prop) (F : Option (Nat × Nat)) (k : Nat) (ν ν' : fMem) : Prop := Kx (fun a j => A a j ∨ (a = 181 ∧ j = 22)) BN ν ν' ∧ ((∃ x, F = some x ∧ RS b N t K ν' (some x) 0) ∨ (F = none ∧ ¬ (t k).1 = 24 ∧ RS b N t K ν' (some (1, k)) 0) ∨ (F = none ∧ (t k).1 = 24 ∧ RS b N t K ν' none (k + 1) ∧ ν'.1 181 22 = ν.1 181 22 + 1 ∧ ν'.1 181 21 = tl ∧ P ν'))
theorem jG (T : Toks b N t K) {ν1 : fMem} {F : Option (Nat × Nat)} {A : Nat → Nat → Prop} {tl : Int32} {P : fMem → Prop} (h1 : RS b N t K ν1 F k) (K1 : Kx A BN ν ν1) (hA : ∀ a j, (AGx a j → A a j) ∧ (A a j → ¬ (a = 181 ∧ j = 22))) (e1 : F = none → ν1.1 181 21 = tl) (c1 : F = none → P ν1) (hP : ∀ ν2 : fMem, (∀ a j, ¬ (a = 181 ∧ j < 30) → ν2.1 a j = ν1.1 a j) → P ν1 → P ν2) : Ok (f_X11_line_j415 181 ν1) (fun _ ν' => Qg b N t K A tl P F k ν ν') := by
  refine (j415_spec T h1).mono ?_
  rintro - ν2 ⟨K2, h2⟩
  refine ⟨(K1.wide (fun _ _ h => Or.inl h) (fun _ _ h => h)).trans (K2.wide (fun a j h => h.elim (fun h => Or.inl ((hA a j).1 h)) Or.inr) (fun _ _ h => h)), ?_⟩
  rcases h2 with h2 | h2 | ⟨hf, h24, h2, e2⟩
  · exact Or.inl h2
  · exact Or.inr (Or.inl h2)
  · refine Or.inr (Or.inr ⟨hf, h24, h2, ?_, ?_, hP ν2 (fun a j z => K2.2.1 a j (by omega)) (c1 hf)⟩)
    · rw [e2, K1.2.1 181 22 (fun z => (hA 181 22).2 z ⟨rfl, rfl⟩)]
    · rw [K2.2.1 _ _ (by omega)]; exact e1 hf
/-- the class' law -/
theorem readLaw_spec (hy : y = 2 ∨ y = 37) (hr : μ.2.2 30 3 = y) (hK : K ≤ 700) (hE : (t K).1 = 22) (h36 : ∀ j, (t j).1 ≤ 36 ∧ ((t j).1 = 21 → (t j).2.2.1 < 2 ^ 31)) (T : CT μ t K k) (h22 : ¬ (t k).1 = 22) {kn : Nat} (hkn : kn ≤ 64) (h2 : μ.1 y 2 = nI kn) (hc : ∀ l, l < 3 → μ.1 (y + 16 + 4 * l) 0 = 0 → CL μ (y + 16 + 4 * l) []) : Ok (f_X5_readLaw 30 μ) (fun r μ' => (¬ (7 ≤ (t (k + 1)).1 ∧ (t (k + 1)).1 ≤ 9) ∧ CFx y μ μ' t (1, k + 1) r) ∨ (∃ l, l < 3 ∧ (t (k + 1)).1 = 7 + l ∧ ((¬ μ.1 (y + 16 + 4 * l) 0 = 0 ∧ CFx y μ μ' t (3, k + 1) r) ∨ (μ.1 (y + 16 + 4 * l) 0 = 0 ∧ ∃ x c, Rch t (false, k + 2, [], [], kn, 0) x ∧ stp t x = .inl c ∧ ((c = 0 ∧ r = 1 ∧ CT μ' t K x.2.1 ∧ Kx (fun a j => AEY y (y + 16 + 4 * l) a j ∨ AX1 a j ∨ (a = y + 16 + 4 * l ∧ j = 0)) BN μ μ' ∧ μ'.1 (y + 16 + 4 * l) 0 = 1 ∧ CE0 μ' y (y + 16 + 4 * l) (popR 1 x.2.2.1 x.2.2.2.1).1 (popR 1 x.2.2.1 x.2.2.2.1).2 x.2.2.2.2.1 x.2.2.2.2.2) ∨ (¬ c = 0 ∧ ∃ x', x' = (c, x.2.1) ∧ CFx y μ μ' t x' r)))))) := by
  have cl10 : ∀ {x : ES} {c : Nat}, stp t x = .inl c → c < 10 := by
    intro x c e
    obtain ⟨vd, k, st, o, kn, op⟩ := x
    cases vd
    · change stF t k st o kn op = .inl c at e
      unfold stF at e
      repeat' split at e
      all_goals first | (cases e; done) | (cases e; decide)
    · change stT t k st o kn op = .inl c at e
      unfold stT at e
      repeat' split at e
      all_goals first | (cases e; done) | (cases e; decide)
  have hlt : k < K := Nat.lt_of_le_of_ne T.2.1 (fun z => h22 (by rw [z]; exact hE))
  unfold f_X5_readLaw f_X5_readLaw_j31
  simp only [Nat.reduceAdd]
  rw [Ok_bd]
  refine (next_spec hK T hlt).mono ?_
  rintro - μ1 ⟨K1, T1⟩
  have hs := (h36 (k + 1)).1
  have P1 : Kx (fun k _ => PCc y k) BN μ μ1 := K1.wide (fun a j h => by unfold PCc; omega) (fun _ _ h => h)
  rw [T1.2.2.2.1]
  rcases Nat.lt_or_ge (t (k + 1)).1 7 with z | z
  · rw [if_pos (show nI (t (k + 1)).1 < 7 from nI_lt (b := 7) z (by decide))]
    exact cfail (y := y) T1 1 fun μ' h => Or.inl ⟨by omega, h.x (by decide) (by decide) P1⟩
  · rw [if_neg (show ¬ nI (t (k + 1)).1 < 7 from nI_nlt (b := 7) z (by omega))]
    rcases Nat.lt_or_ge 9 (t (k + 1)).1 with z2 | z2
    · rw [if_neg (show ¬ nI (t (k + 1)).1 ≤ 9 from nI_ge (a := 9) z2 (by omega))]
      exact cfail (y := y) T1 1 fun μ' h => Or.inl ⟨by omega, h.x (by decide) (by decide) P1⟩
    · obtain ⟨l, hl⟩ : ∃ l, (t (k + 1)).1 = 7 + l := ⟨(t (k + 1)).1 - 7, by omega⟩
      have hl3 : l < 3 := by omega
      have LW : LWc y (y + 16 + 4 * l) := ⟨hy, by omega⟩
      have hr1 : μ1.2.2 30 3 = y := by rw [K1.1]; exact hr
      rw [if_pos (show nI (t (k + 1)).1 ≤ 9 from nI_le (b := 9) z2 (by decide)), Ok_vl, hr1, gd_t (kd2 hy), show nI (t (k + 1)).1 - 7 = nI l by rw [hl, Nat.add_comm]; exact nI_sub l 7, lawOf_eq y l hl3, bd_some, gd_t (kd3 hy hl3), K1.2.1 (y + 16 + 4 * l) 0 (by omega)]
      by_cases c0 : μ.1 (y + 16 + 4 * l) 0 = 0
      · have hlt2 : k + 1 < K := Nat.lt_of_le_of_ne T1.2.1 (fun w => by rw [← w] at hE; omega)
        rw [if_pos c0, Ok_bd]
        refine (next_spec hK T1 hlt2).mono ?_
        rintro - μ2 ⟨K2, T2⟩
        have K12 : Kx AX1 BN μ μ2 := K1.trans K2
        rw [Ok_bd]
        refine (readExpr_spec LW (by rw [K2.1]; exact hr1) hK h36 hE T2 hkn (by rw [K12.2.1 _ _ (by omega)]; exact h2) ((hc l hl3 c0).of' (K12.2.1 _ _ (by omega)) (fun a j _ _ => K12.2.1 _ _ (by omega)))).mono ?_
        rintro r μ3 ⟨K3, x, c, R, e, ho⟩
        have P3 : Kx (fun k _ => PCc y k) BN μ μ3 := (K12.wide (fun a j h => by unfold PCc; omega) (fun _ _ h => h)).trans (K3.wide (fun a j h => by unfold PCc; omega) (fun _ _ h => h))
        rcases ho with ⟨rfl, rfl, T3, E3, Ky⟩ | ⟨hc0, rfl, e0, e1⟩
        · rw [if_neg (by decide), Ok_vl, gd_t (Or.inr rfl), Ok_some]
          have f : ∀ a j, ¬ (a = y + 16 + 4 * l ∧ j = 0) → (sI μ3 (y + 16 + 4 * l) 0 1).1 a j = μ3.1 a j := fun a j h => by rw [sI_i, if_neg h]
          obtain ⟨b1, b2, b3, b4, b5, b6⟩ := E3
          refine Or.inr ⟨l, hl3, hl, Or.inr ⟨c0, x, 0, R, e, Or.inl ⟨rfl, rfl, T3.of (fun j hj => f _ _ (by omega)) (fun c a b => by funext j; exact f _ _ (by omega)), ((K12.wide (fun a j h => by omega) (fun _ _ h => h)).trans (Ky.wide (fun a j h => by omega) (fun _ _ h => h))).sI (by omega), by rw [sI_i, if_pos ⟨rfl, rfl⟩], by rw [f _ _ (by omega)]; exact b1, CW.of (fun j => f _ _ (by omega)) b2, by rw [f _ _ (by omega)]; exact b3, b4.of' (f _ _ (by omega)) (fun a j _ _ => f _ _ (by omega)), ?_, by rw [f _ _ (by omega)]; exact b6⟩⟩⟩
          unfold Us at b5 ⊢
          rw [f _ _ (by omega)]
          exact b5
        · rw [if_pos rfl, gd_t (Or.inl rfl), Ok_some]
          exact Or.inr ⟨l, hl3, hl, Or.inr ⟨c0, x, c, R, e, Or.inr ⟨hc0, _, rfl, rfl, P3, e0, e1, hc0, cl10 e⟩⟩⟩
      · rw [if_neg c0]
        exact cfail (y := y) T1 3 fun μ' h => Or.inr ⟨l, hl3, hl, Or.inl ⟨c0, h.x (by decide) (by decide) P1⟩⟩
end Lines
