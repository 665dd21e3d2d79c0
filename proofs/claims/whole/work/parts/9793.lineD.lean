/-! all lines of a text -/
theorem lpn_1 {σ : Type} {b : σ → Option (Nat × σ)} {s s' : σ} {n u : Nat} (h : b s = some (u + 1, s')) : lpn b (n + 1) s = some (u, s') := by
  show (match b s with | none => none | some (0, s') => lpn b n s' | some (t + 1, s') => some (t, s')) = _
  rw [h]
section Text
variable {b : Nat → Nat} {N : Nat} {t : TQ} {K : Nat} {y : Nat}
/-- how both readings end -/
def RE (b : Nat → Nat) (N : Nat) (t : TQ) (K y : Nat) (μ : fMem) (tC : Nat) (μ' ν' : fMem) : Prop := (tC = 0 ∧ (ν'.1 181 28 = 0 ∧ ν'.1 181 29 = -1) ∧ (∃ c D L, JB μ' y ν' c D L) ∧ μ'.1 y 1 = ν'.1 181 22 ∧ μ'.1 30 0 = μ.1 30 0 ∧ μ'.1 30 1 = μ.1 30 1) ∨ ∃ x, RS b N t K ν' (some x) 0 ∧ ((tC = 1 ∧ μ'.1 30 0 = nI x.1 ∧ μ'.1 30 1 = nI (t x.2).2.1) ∨ ∃ k', tC = 2 ∧ x = (1, k') ∧ CT μ' t K k')
theorem lines_joint (T : Toks b N t K) (hT : TkOk t) (hy : y = 2 ∨ y = 37) : ∀ (d k i f : Nat) (μ ν : fMem) (c : Nat → Nat) (D : Nat → Nat → Bool) (L : Nat → List (Int32 × Int32)), K - k ≤ d → d + 2 ≤ f → i ≤ k → μ.2.2 30 3 = y → CT μ t K k → RS b N t K ν none k → JB μ y ν c D L → μ.1 y 1 = ν.1 181 22 → ∃ tC z tR ν', lpn (fun (q : Int32 × fMem) => f_X5_read_L28 30 q.1 q.2) f (nI i, μ) = some (tC, z) ∧ lpn (fun (q : fMem) => f_X11_text_L117 181 q) f ν = some (tR, ν') ∧ Kx (fun k _ => PCc y k) BN μ z.2 ∧ Kx AP BN ν ν' ∧ RE b N t K y μ tC z.2 ν' := by
  intro d
  induction d with
  | zero =>
    intro k i f μ ν c D L hd hf hi hr hC hR H hl
    obtain ⟨f, rfl⟩ : ∃ g, f = g + 2 := ⟨f - 2, by omega⟩
    have hkK : k = K := by have := hC.2.1; omega
    have h22 : (t k).1 = 22 := by rw [hkK]; exact T.2.2.2
    have hk7 := T.1
    have e1 : f_X5_read_L28 30 (nI i) μ = some (1, (nI i, μ)) := by
      unfold f_X5_read_L28
      simp only [Nat.reduceAdd]
      rw [if_neg (show ¬ 700 < nI i from nI_nlt (a := 700) (by omega) (by decide)), hC.2.2.2.1, if_pos (show nI (t k).1 = 22 by rw [h22]; rfl)]
    have e2 : f_X11_text_L117 181 ν = some (1, ν) := by
      unfold f_X11_text_L117
      rw [if_pos hR.2.2.1, if_pos (hR.2.2.2.k4.mpr h22)]
    exact ⟨0, (nI i, μ), 0, ν, lpn_1 e1, lpn_1 e2, Kx.rfl', Kx.rfl', Or.inl ⟨rfl, ⟨hR.2.2.1, hR.2.2.2.1.2⟩, ⟨c, D, L, H⟩, hl, rfl, rfl⟩⟩
  | succ d ih =>
    intro k i f μ ν c D L hd hf hi hr hC hR H hl
    obtain ⟨f, rfl⟩ : ∃ g, f = g + 2 := ⟨f - 2, by omega⟩
    have hk7 := T.1
    have hkK := hC.2.1
    by_cases h22 : (t k).1 = 22
    · have e1 : f_X5_read_L28 30 (nI i) μ = some (1, (nI i, μ)) := by
        unfold f_X5_read_L28
        simp only [Nat.reduceAdd]
        rw [if_neg (show ¬ 700 < nI i from nI_nlt (a := 700) (by omega) (by decide)), hC.2.2.2.1, if_pos (show nI (t k).1 = 22 by rw [h22]; rfl)]
      have e2 : f_X11_text_L117 181 ν = some (1, ν) := by
        unfold f_X11_text_L117
        rw [if_pos hR.2.2.1, if_pos (hR.2.2.2.k4.mpr h22)]
      exact ⟨0, (nI i, μ), 0, ν, lpn_1 e1, lpn_1 e2, Kx.rfl', Kx.rfl', Or.inl ⟨rfl, ⟨hR.2.2.1, hR.2.2.2.1.2⟩, ⟨c, D, L, H⟩, hl, rfl, rfl⟩⟩
    · obtain ⟨r, μ1, ν1, q1, q2, K1, K2, hJ⟩ := line_joint T hT hy hr hC hR H h22
      have e2 : f_X11_text_L117 181 ν = some (0, ν1) := by
        unfold f_X11_text_L117
        rw [if_pos hR.2.2.1, if_neg (fun z => h22 (hR.2.2.2.k4.mp z)), q2, bd_some]
      have e2f : ∀ x, RS b N t K ν1 (some x) 0 → lpn (fun (q : fMem) => f_X11_text_L117 181 q) (f + 2) ν = some (0, ν1) := by
        intro x hx
        rw [lpn_0 (s' := ν1) e2]
        refine lpn_1 (u := 0) ?_
        show f_X11_text_L117 181 ν1 = some (1, ν1)
        unfold f_X11_text_L117
        rw [if_neg hx.ne]
      have e1 : f_X5_read_L28 30 (nI i) μ = if r = 0 then some (2, (nI i, μ1)) else if μ1.1 31 0 = 24 then vl (μ1.2.2 30 3) fun x18 => gd (kd x18 = (4, 2)) (vl (sI μ1 x18 1 ((μ1.1 x18 1) + (1 : Int32))) fun μ20 => bd (f_X9_next 31 μ20) fun _ μ21 => vl (nI i + (1 : Int32)) fun x24 => some (0, (x24, μ21))) else some (3, (nI i, μ1)) := by
        unfold f_X5_read_L28
        simp only [Nat.reduceAdd]
        rw [if_neg (show ¬ 700 < nI i from nI_nlt (a := 700) (by omega) (by decide)), hC.2.2.2.1, if_neg (show ¬ nI (t k).1 = 22 from fun z => h22 ((nI_eq (b := 22) (by have := (hT k).1; omega) (by decide)).mp z)), q1, bd_some]
      rcases hJ with ⟨x, rfl, g0, g1, hS⟩ | ⟨k', rfl, hkk, T1, ⟨gl, g0, g1⟩, hJ⟩
      · rw [if_pos rfl] at e1
        exact ⟨1, (nI i, μ1), 0, ν1, lpn_1 e1, e2f x hS, K1, K2, Or.inr ⟨x, hS, Or.inl ⟨rfl, g0, g1⟩⟩⟩
      · rw [if_neg (by decide), T1.2.2.2.1] at e1
        rcases hJ with ⟨h24, hS⟩ | ⟨h24, hS, e22, c', D', L', H'⟩
        · rw [if_neg (show ¬ nI (t k').1 = 24 from fun z => h24 ((nI_eq (b := 24) (by have := (hT k').1; omega) (by decide)).mp z))] at e1
          exact ⟨2, (nI i, μ1), 0, ν1, lpn_1 e1, e2f _ hS, K1, K2, Or.inr ⟨_, hS, Or.inr ⟨k', rfl, rfl, T1⟩⟩⟩
        · have hr1 : μ1.2.2 30 3 = y := by rw [K1.1]; exact hr
          have hlt : k' < K := Nat.lt_of_le_of_ne T1.2.1 (fun z => by have := T.2.2.2; rw [← z] at this; omega)
          have T2 : CT (sI μ1 y 1 (μ1.1 y 1 + 1)) t K k' := T1.of (fun j hj => by rw [sI_i, if_neg (by omega)]) (fun c a b => by funext j; rw [sI_i, if_neg (by omega)])
          obtain ⟨u3, μ3, q3, K3, T3⟩ := next_spec T.1 T2 hlt
          rw [if_pos (show nI (t k').1 = 24 by rw [h24]; rfl), vl, hr1, gd_t (kd2 hy), vl, q3, bd_some, vl, nI_1] at e1
          have f3 : ∀ a j, ¬ AX1 a j → ¬ (a = y ∧ j = 1) → μ3.1 a j = μ1.1 a j := fun a j h1 h2 => by rw [K3.2.1 a j h1, sI_i, if_neg h2]
          have H3 : JB μ3 y ν1 c' D' L' := H'.of (fun a j h1 h2 h3 => f3 a j (by omega) h3) (fun a j _ => rfl)
          have P3 : Kx (fun k _ => PCc y k) BN μ μ3 := (K1.sI (by unfold PCc; omega)).trans (K3.wide (fun a j h => by unfold PCc; omega) (fun _ _ h => h))
          obtain ⟨tC, z, tR, ν', w1, w2, w3, w4, w5⟩ := ih (k' + 1) (i + 1) (f + 1) μ3 ν1 c' D' L' (by omega) (by omega) (by omega) (by rw [K3.1]; exact hr1) T3 hS H3 (by rw [K3.2.1 _ _ (by omega), sI_i, if_pos ⟨rfl, rfl⟩, gl, hl, e22])
          refine ⟨tC, z, tR, ν', by rw [lpn_0 (s' := (nI (i + 1), μ3)) e1]; exact w1, by rw [lpn_0 (s' := ν1) e2]; exact w2, P3.trans w3, K2.trans w4, ?_⟩
          rcases w5 with ⟨v1, v2, v3, v4, v5, v6⟩ | v
          · refine Or.inl ⟨v1, v2, v3, v4, ?_, ?_⟩
            · rw [v5, f3 _ _ (by omega) (by omega), g0]
            · rw [v6, f3 _ _ (by omega) (by omega), g1]
          · exact Or.inr v
/-- the class' house, emptied -/
theorem hclear_spec (hy : y = 2 ∨ y = 37) (μ : fMem) : Ok (f_X2_clear y μ) (fun _ μ' => Kx (fun a j => y ≤ a ∧ a ≤ y + 24) BN μ μ' ∧ μ'.1 y 1 = 0 ∧ μ'.1 y 2 = 0 ∧ (∀ j, j < 6 → μ'.1 (y + 1) j = 0 ∧ μ'.1 (y + 7) j = 0) ∧ ∀ l, l < 3 → μ'.1 (y + 16 + 4 * l) 0 = 0 ∧ μ'.1 (y + 16 + 4 * l) 1 = 0 ∧ μ'.1 (y + 16 + 4 * l) 2 = 0) := by
  have k1 : kd (y + 1) = (0, 6) := by rcases hy with rfl | rfl <;> decide
  have k7 : kd (y + 7) = (0, 6) := by rcases hy with rfl | rfl <;> decide
  unfold f_X2_clear f_X3_clear
  rw [fill_spec (y + 1) 0 μ k1 (by decide), bd_some, fill_spec (y + 7) 0 _ k7 (by decide), bd_some]
  have K1 : Kx (fun a j => y ≤ a ∧ a ≤ y + 24) BN μ (sRow (sRow μ (y + 1) fun j => if j < 6 then 0 else μ.1 (y + 1) j) (y + 7) fun j => if j < 6 then 0 else (sRow μ (y + 1) fun j => if j < 6 then 0 else μ.1 (y + 1) j).1 (y + 7) j) := ⟨rfl, fun a j h => by rw [sRow_ne (by omega), sRow_ne (by omega)], fun _ _ _ => rfl⟩
  have g1 : ∀ j, j < 6 → (sRow (sRow μ (y + 1) fun j => if j < 6 then 0 else μ.1 (y + 1) j) (y + 7) fun j => if j < 6 then 0 else (sRow μ (y + 1) fun j => if j < 6 then 0 else μ.1 (y + 1) j).1 (y + 7) j).1 (y + 1) j = 0 := fun j hj => by rw [sRow_ne (by omega), sRow_at, if_pos hj]
  have g7 : ∀ j, j < 6 → (sRow (sRow μ (y + 1) fun j => if j < 6 then 0 else μ.1 (y + 1) j) (y + 7) fun j => if j < 6 then 0 else (sRow μ (y + 1) fun j => if j < 6 then 0 else μ.1 (y + 1) j).1 (y + 7) j).1 (y + 7) j = 0 := fun j hj => by rw [sRow_at, if_pos hj]
  generalize (sRow (sRow μ (y + 1) fun j => if j < 6 then 0 else μ.1 (y + 1) j) (y + 7) fun j => if j < 6 then 0 else (sRow μ (y + 1) fun j => if j < 6 then 0 else μ.1 (y + 1) j).1 (y + 7) j) = μ1 at K1 g1 g7 ⊢
  simp only [vl, bd_some, Ok_some]
  refine ⟨((((((((((K1.sI (by omega)).sI (by omega)).sI (by omega)).sI (by omega)).sI (by omega)).sI (by omega)).sI (by omega)).sI (by omega)).sI (by omega)).sI (by omega)).sI (by omega), ?_, ?_, fun j hj => ⟨?_, ?_⟩, fun l hl => ?_⟩
  · simp [sI_i]
  · simp [sI_i]
  · rw [← g1 j hj]; simp [sI_i]
  · rw [← g7 j hj]; simp [sI_i]
  · rcases (show l = 0 ∨ l = 1 ∨ l = 2 by omega) with rfl | rfl | rfl <;> refine ⟨?_, ?_, ?_⟩ <;> simp [sI_i]
end Text
