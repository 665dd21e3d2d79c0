/-! .. the dead, glasses, seeds, doors -/
section RLine3
variable {b : Nat → Nat} {N : Nat} {t : TQ} {K k : Nat} {ν : fMem} {Q : Unit → fMem → Prop}
theorem fs_none {f : Option (Nat × Nat)} {c k : Nat} (h : fs f c k = none) : f = none ∧ c = 0 := by
  cases f with
  | some x => cases h
  | none =>
    refine ⟨rfl, ?_⟩
    by_cases q : c = 0
    · exact q
    · rw [fs_n q] at h; cases h
theorem line_dead (T : Toks b N t K) (h36 : ∀ j, (t j).1 ≤ 36) (h : RS b N t K ν none k) (h22 : ¬ (t k).1 = 22) {n : Nat} (hn : n < 6) (hc : ν.1 183 10 = nI n) {q1 : Option Nat} (hq1 : fnd (fun j => decide (ν.1 191 (6 + j) = nI (t (k + 1)).2.2.1)) n = q1) {F : Option (Nat × Nat)} (hF : fs (fs (fs (fs (fs none (nameC (t (k + 1)).1 q1) (k + 1)) (numC (t (k + 2)).1 (t (k + 2)).2.2.1 9) (k + 2)) (numC (t (k + 3)).1 (t (k + 3)).2.2.1 5) (k + 3)) (numC (t (k + 4)).1 (t (k + 4)).2.2.1 1) (k + 4)) (numC (t (k + 5)).1 (t (k + 5)).2.2.1 100) (k + 5) = F) (hG : ∀ ν' : fMem, RS b N t K ν' F (k + 6) → Kx (fun a j => AGx a j ∨ (a = 181 ∧ j = 21) ∨ (191 ≤ a ∧ a ≤ 195 ∧ j = 6 + n) ∨ (a = 183 ∧ j = 10)) BN ν ν' → ν'.1 181 21 = (ν.1 181 21 ||| shl 1 (nI 3)) → (F = none → ν'.1 191 (6 + n) = nI (t (k + 1)).2.2.1 ∧ (ν'.1 192 (6 + n) = nI (t (k + 2)).2.2.1 ∧ (t (k + 2)).2.2.1 ≤ 9) ∧ (ν'.1 193 (6 + n) = nI (t (k + 3)).2.2.1 ∧ (t (k + 3)).2.2.1 ≤ 5) ∧ (ν'.1 194 (6 + n) = nI (t (k + 4)).2.2.1 ∧ (t (k + 4)).2.2.1 ≤ 1) ∧ (ν'.1 195 (6 + n) = nI (t (k + 5)).2.2.1 ∧ (t (k + 5)).2.2.1 ≤ 100) ∧ ν'.1 183 10 = nI (n + 1)) → Ok (f_X11_line_j415 181 ν') Q) : Ok (f_X11_line_j65 181 (nI 3) ν) Q := by
  have kd191 : kd 191 = (0, 12) := by decide
  have hix : ixo (nI (6 + n)) 12 := ixN (by omega) (by decide)
  have hcl : (nI (6 + n)).toNatClampNeg = 6 + n := nI_clamp (by omega)
  unfold f_X11_line_j65
  simp only [Nat.reduceAdd]
  rw [if_pos h.2.2.1, Ok_vl, Ok_bd]
  refine (word_S T h h22 (w := 3)).mono ?_
  rintro - ν1 ⟨h1, K1, e21⟩
  have c1 : ν1.1 183 10 = nI n := by rw [K1.2.1 _ _ (by omega)]; exact hc
  rw [if_neg (by decide), if_neg (by decide), if_neg (by decide), if_pos (by decide), fr3 c1, bd_some, Ok_vl, show (6 : Int32) + nI n = nI (6 + n) from nI_add 6 n, fr3 c1, bd_some, Ok_bd]
  simp only [gd_t hix, hcl]
  refine (fresh_spec (f0 := 6) T h1 kd191 (by omega) (by decide) (q := q1) (by rw [← hq1]; exact fnd_congr fun i hi => by rw [K1.2.1 _ _ (by omega)])).mono ?_
  rintro r ν2 ⟨h2, e2, K2⟩
  rw [Ok_vl]
  have K3 : Kx (fun a j => a = 191 ∧ j = 6 + n) BN ν2 (sI ν2 191 (6 + n) r) := Kx.rfl'.sI ⟨rfl, rfl⟩
  have h3 := h2.of K3 (fun a j z => by omega)
  have e3 : (sI ν2 191 (6 + n) r).1 191 (6 + n) = r := by rw [sI_i, if_pos ⟨rfl, rfl⟩]
  generalize sI ν2 191 (6 + n) r = ν3 at K3 h3 e3 ⊢
  rw [Ok_bd]
  refine (numeral_spec (M := 9) T (h36 _) h3 (by decide)).mono ?_
  rintro r4 ν4 ⟨h4, e4, K4⟩
  rw [Ok_vl]
  have K5 : Kx (fun a j => a = 192 ∧ j = 6 + n) BN ν4 (sI ν4 192 (6 + n) r4) := Kx.rfl'.sI ⟨rfl, rfl⟩
  have h5 := h4.of K5 (fun a j z => by omega)
  have e5 : (sI ν4 192 (6 + n) r4).1 192 (6 + n) = r4 := by rw [sI_i, if_pos ⟨rfl, rfl⟩]
  generalize sI ν4 192 (6 + n) r4 = ν5 at K5 h5 e5 ⊢
  rw [Ok_bd]
  refine (numeral_spec (M := 5) T (h36 _) h5 (by decide)).mono ?_
  rintro r6 ν6 ⟨h6, e6, K6⟩
  rw [Ok_vl]
  have K7 : Kx (fun a j => a = 193 ∧ j = 6 + n) BN ν6 (sI ν6 193 (6 + n) r6) := Kx.rfl'.sI ⟨rfl, rfl⟩
  have h7 := h6.of K7 (fun a j z => by omega)
  have e7 : (sI ν6 193 (6 + n) r6).1 193 (6 + n) = r6 := by rw [sI_i, if_pos ⟨rfl, rfl⟩]
  generalize sI ν6 193 (6 + n) r6 = ν7 at K7 h7 e7 ⊢
  rw [Ok_bd]
  refine (numeral_spec (M := 1) T (h36 _) h7 (by decide)).mono ?_
  rintro r8 ν8 ⟨h8, e8, K8⟩
  rw [Ok_vl]
  have K9 : Kx (fun a j => a = 194 ∧ j = 6 + n) BN ν8 (sI ν8 194 (6 + n) r8) := Kx.rfl'.sI ⟨rfl, rfl⟩
  have h9 := h8.of K9 (fun a j z => by omega)
  have e9 : (sI ν8 194 (6 + n) r8).1 194 (6 + n) = r8 := by rw [sI_i, if_pos ⟨rfl, rfl⟩]
  generalize sI ν8 194 (6 + n) r8 = ν9 at K9 h9 e9 ⊢
  rw [Ok_bd]
  refine (numeral_spec (M := 100) T (h36 _) h9 (by decide)).mono ?_
  rintro r10 νA ⟨hA, eA, KA⟩
  rw [Ok_vl]
  have KB : Kx (fun a j => a = 195 ∧ j = 6 + n) BN νA (sI νA 195 (6 + n) r10) := Kx.rfl'.sI ⟨rfl, rfl⟩
  have hB := hA.of KB (fun a j z => by omega)
  have eB : (sI νA 195 (6 + n) r10).1 195 (6 + n) = r10 := by rw [sI_i, if_pos ⟨rfl, rfl⟩]
  generalize sI νA 195 (6 + n) r10 = νB at KB hB eB ⊢
  have K0B := ((((((((((K1.wide (A' := fun a j => AGx a j ∨ (a = 181 ∧ j = 21) ∨ (191 ≤ a ∧ a ≤ 195 ∧ j = 6 + n) ∨ (a = 183 ∧ j = 10)) (B' := BN) (fun a j h => by omega) (fun _ _ h => h)).trans (K2.wide (fun a j h => by omega) (fun _ _ h => h))).trans (K3.wide (fun a j h => by omega) (fun _ _ h => h))).trans (K4.wide (fun a j h => by omega) (fun _ _ h => h))).trans (K5.wide (fun a j h => by omega) (fun _ _ h => h))).trans (K6.wide (fun a j h => by omega) (fun _ _ h => h))).trans (K7.wide (fun a j h => by omega) (fun _ _ h => h))).trans (K8.wide (fun a j h => by omega) (fun _ _ h => h))).trans (K9.wide (fun a j h => by omega) (fun _ _ h => h))).trans (KA.wide (fun a j h => by omega) (fun _ _ h => h))).trans (KB.wide (fun a j h => by omega) (fun _ _ h => h))
  have cB : νB.1 183 10 = nI n := by rw [KB.2.1 _ _ (by omega), KA.2.1 _ _ (by omega), K9.2.1 _ _ (by omega), K8.2.1 _ _ (by omega), K7.2.1 _ _ (by omega), K6.2.1 _ _ (by omega), K5.2.1 _ _ (by omega), K4.2.1 _ _ (by omega), K3.2.1 _ _ (by omega), K2.2.1 _ _ (by omega)]; exact c1
  rw [fr3 cB, bd_some, nI_1, rd3, bd_some]
  have KC : Kx (fun a j => a = 183 ∧ j = 10) BN νB (sI νB 183 10 (nI (n + 1))) := Kx.rfl'.sI ⟨rfl, rfl⟩
  refine hG _ (by rw [← hF]; exact hB.of KC (fun a j z => by omega)) (K0B.trans (KC.wide (fun a j h => by omega) (fun _ _ h => h))) ?_ (fun z => ?_)
  · rw [KC.2.1 _ _ (by omega), KB.2.1 _ _ (by omega), KA.2.1 _ _ (by omega), K9.2.1 _ _ (by omega), K8.2.1 _ _ (by omega), K7.2.1 _ _ (by omega), K6.2.1 _ _ (by omega), K5.2.1 _ _ (by omega), K4.2.1 _ _ (by omega), K3.2.1 _ _ (by omega), K2.2.1 _ _ (by omega)]; exact e21
  · rw [← hF] at z
    have z4 := (fs_none z).1
    have z3 := (fs_none z4).1
    have z2 := (fs_none z3).1
    have z1 := (fs_none z2).1
    have w1 := e2 z1
    have w2 := e4 z2
    have w3 := e6 z3
    have w4 := e8 z4
    have w5 := eA z
    refine ⟨?_, ⟨?_, w2.2⟩, ⟨?_, w3.2⟩, ⟨?_, w4.2⟩, ⟨?_, w5.2⟩, by rw [sI_i, if_pos ⟨rfl, rfl⟩]⟩
    · rw [KC.2.1 _ _ (by omega), KB.2.1 _ _ (by omega), KA.2.1 _ _ (by omega), K9.2.1 _ _ (by omega), K8.2.1 _ _ (by omega), K7.2.1 _ _ (by omega), K6.2.1 _ _ (by omega), K5.2.1 _ _ (by omega), K4.2.1 _ _ (by omega), e3]; exact w1
    · rw [KC.2.1 _ _ (by omega), KB.2.1 _ _ (by omega), KA.2.1 _ _ (by omega), K9.2.1 _ _ (by omega), K8.2.1 _ _ (by omega), K7.2.1 _ _ (by omega), K6.2.1 _ _ (by omega), e5]; exact w2.1
    · rw [KC.2.1 _ _ (by omega), KB.2.1 _ _ (by omega), KA.2.1 _ _ (by omega), K9.2.1 _ _ (by omega), K8.2.1 _ _ (by omega), e7]; exact w3.1
    · rw [KC.2.1 _ _ (by omega), KB.2.1 _ _ (by omega), KA.2.1 _ _ (by omega), e9]; exact w4.1
    · rw [KC.2.1 _ _ (by omega), eB]; exact w5.1
theorem line_glass (T : Toks b N t K) (h36 : ∀ j, (t j).1 ≤ 36) (h : RS b N t K ν none k) (h22 : ¬ (t k).1 = 22) {n : Nat} (hn : n < 9) (hc : ν.1 183 11 = nI n) {F : Option (Nat × Nat)} (hF : fs none (numC (t (k + 1)).1 (t (k + 1)).2.2.1 99) (k + 1) = F) (hG : ∀ ν' : fMem, RS b N t K ν' F (k + 2) → Kx (fun a j => AGx a j ∨ (a = 181 ∧ j = 21) ∨ (a = 196 ∧ j = 9 + n) ∨ (a = 183 ∧ j = 11)) BN ν ν' → ν'.1 181 21 = (ν.1 181 21 ||| shl 1 (nI 4)) → (F = none → (ν'.1 196 (9 + n) = nI (t (k + 1)).2.2.1 ∧ (t (k + 1)).2.2.1 ≤ 99) ∧ ν'.1 183 11 = nI (n + 1)) → Ok (f_X11_line_j415 181 ν') Q) : Ok (f_X11_line_j65 181 (nI 4) ν) Q := by
  unfold f_X11_line_j65
  simp only [Nat.reduceAdd]
  rw [if_pos h.2.2.1, Ok_vl, Ok_bd]
  refine (word_S T h h22 (w := 4)).mono ?_
  rintro - ν1 ⟨h1, K1, e21⟩
  have c1 : ν1.1 183 11 = nI n := by rw [K1.2.1 _ _ (by omega)]; exact hc
  rw [if_neg (by decide), if_neg (by decide), if_neg (by decide), if_neg (by decide), if_pos (by decide), fr4 c1, bd_some, Ok_bd]
  refine (numeral_spec (M := 99) T (h36 _) h1 (by decide)).mono ?_
  rintro r ν2 ⟨h2, e2, K2⟩
  rw [show (9 : Int32) + nI n = nI (9 + n) from nI_add 9 n, gd_t (ixN (by omega) (by decide)), nI_clamp (by omega), Ok_vl]
  have K3 : Kx (fun a j => a = 196 ∧ j = 9 + n) BN ν2 (sI ν2 196 (9 + n) r) := Kx.rfl'.sI ⟨rfl, rfl⟩
  have h3 := h2.of K3 (fun a j z => by omega)
  have e3 : (sI ν2 196 (9 + n) r).1 196 (9 + n) = r := by rw [sI_i, if_pos ⟨rfl, rfl⟩]
  generalize sI ν2 196 (9 + n) r = ν3 at K3 h3 e3 ⊢
  have c3 : ν3.1 183 11 = nI n := by rw [K3.2.1 _ _ (by omega), K2.2.1 _ _ (by omega)]; exact c1
  rw [fr4 c3, bd_some, nI_1, rd4, bd_some]
  have K4 : Kx (fun a j => a = 183 ∧ j = 11) BN ν3 (sI ν3 183 11 (nI (n + 1))) := Kx.rfl'.sI ⟨rfl, rfl⟩
  refine hG _ (by rw [← hF]; exact h3.of K4 (fun a j z => by omega)) ((((K1.wide (fun a j h => by omega) (fun _ _ h => h)).trans (K2.wide (fun a j h => by omega) (fun _ _ h => h))).trans (K3.wide (fun a j h => by omega) (fun _ _ h => h))).trans (K4.wide (fun a j h => by omega) (fun _ _ h => h))) ?_ (fun z => ?_)
  · rw [K4.2.1 _ _ (by omega), K3.2.1 _ _ (by omega), K2.2.1 _ _ (by omega)]; exact e21
  · rw [← hF] at z
    have w := e2 z
    exact ⟨⟨by rw [K4.2.1 _ _ (by omega), e3]; exact w.1, w.2⟩, by rw [sI_i, if_pos ⟨rfl, rfl⟩]⟩
theorem line_seed (T : Toks b N t K) (h36 : ∀ j, (t j).1 ≤ 36) (h : RS b N t K ν none k) (h22 : ¬ (t k).1 = 22) {F : Option (Nat × Nat)} (hF : fs none (numC (t (k + 1)).1 (t (k + 1)).2.2.1 99999) (k + 1) = F) (hG : ∀ ν' : fMem, RS b N t K ν' F (k + 2) → Kx (fun a j => AGx a j ∨ (a = 181 ∧ j = 21) ∨ (a = 183 ∧ j = 12)) BN ν ν' → ν'.1 181 21 = (ν.1 181 21 ||| shl 1 (nI 5)) → Ok (f_X11_line_j415 181 ν') Q) : Ok (f_X11_line_j65 181 (nI 5) ν) Q := by
  unfold f_X11_line_j65
  simp only [Nat.reduceAdd]
  rw [if_pos h.2.2.1, Ok_vl, Ok_bd]
  refine (word_S T h h22 (w := 5)).mono ?_
  rintro - ν1 ⟨h1, K1, e21⟩
  rw [if_neg (by decide), if_neg (by decide), if_neg (by decide), if_neg (by decide), if_neg (by decide), if_pos (by decide), Ok_bd]
  refine (numeral_spec (M := 99999) T (h36 _) h1 (by decide)).mono ?_
  rintro r ν2 ⟨h2, e2, K2⟩
  rw [rd5, bd_some]
  have K4 : Kx (fun a j => a = 183 ∧ j = 12) BN ν2 (sI ν2 183 12 r) := Kx.rfl'.sI ⟨rfl, rfl⟩
  refine hG _ (by rw [← hF]; exact h2.of K4 (fun a j z => by omega)) (((K1.wide (fun a j h => by omega) (fun _ _ h => h)).trans (K2.wide (fun a j h => by omega) (fun _ _ h => h))).trans (K4.wide (fun a j h => by omega) (fun _ _ h => h))) ?_
  rw [K4.2.1 _ _ (by omega), K2.2.1 _ _ (by omega)]; exact e21
/-- the doors are looked through -/
theorem door_loop (T : Toks b N t K) (h : RS b N t K ν none k) {n a c : Nat} (hn : n ≤ 9) (hac : a < 6 ∧ c < 6) : Ok (lpn (fun (q : Int32 × fMem) => f_X11_doorLine_L14 181 (nI (9 + n)) (nI a) (nI c) q.1 q.2) fuel (9, ν)) (fun _ q => ((∃ i, i < n ∧ ((ν.1 185 (9 + i) = nI a ∧ ν.1 186 (9 + i) = nI c) ∨ (ν.1 185 (9 + i) = nI c ∧ ν.1 186 (9 + i) = nI a))) ∧ (∀ k', RS b N t K q.2 (some (3, k)) k') ∧ Kx AGx BN ν q.2) ∨ ((¬ ∃ i, i < n ∧ ((ν.1 185 (9 + i) = nI a ∧ ν.1 186 (9 + i) = nI c) ∨ (ν.1 185 (9 + i) = nI c ∧ ν.1 186 (9 + i) = nI a))) ∧ q.2 = ν)) := by
  refine Ok_lp n (fun i (q : Int32 × fMem) => q.1 = nI (9 + i) ∧ (((∃ i, i < n ∧ ((ν.1 185 (9 + i) = nI a ∧ ν.1 186 (9 + i) = nI c) ∨ (ν.1 185 (9 + i) = nI c ∧ ν.1 186 (9 + i) = nI a))) ∧ (∀ k', RS b N t K q.2 (some (3, k)) k') ∧ Kx AGx BN ν q.2) ∨ ((∀ j, j < i → ¬ ((ν.1 185 (9 + j) = nI a ∧ ν.1 186 (9 + j) = nI c) ∨ (ν.1 185 (9 + j) = nI c ∧ ν.1 186 (9 + j) = nI a))) ∧ q.2 = ν))) (by omega) ⟨rfl, Or.inr ⟨fun j hj => by omega, rfl⟩⟩ ?_
  rintro i ⟨x1, ν1⟩ hi ⟨hx, ho⟩
  dsimp only at hx ho ⊢
  subst hx
  unfold f_X11_doorLine_L14
  rcases Nat.lt_or_ge i n with q | q
  · rw [if_neg (nI_ge (show 9 + i < 9 + n by omega) (by omega))]
    rcases ho with ⟨o1, o2, o3⟩ | ⟨o1, o2⟩
    · rw [if_neg (o2 k).ne, Ok_some]
      exact Or.inr ⟨0, rfl, Or.inl ⟨o1, o2, o3⟩⟩
    · subst o2
      have hix : ixo (nI (9 + i)) 18 := ixN (by omega) (by decide)
      have hcl : (nI (9 + i)).toNatClampNeg = 9 + i := nI_clamp (by omega)
      unfold f_X11_doorLine_j49 f_X11_doorLine_j71
      simp only [Nat.reduceAdd, gd_t hix, hcl]
      rw [if_pos h.2.2.1]
      have hit : ((ν1.1 185 (9 + i) = nI a ∧ ν1.1 186 (9 + i) = nI c) ∨ (ν1.1 185 (9 + i) = nI c ∧ ν1.1 186 (9 + i) = nI a)) → Ok (bd (f_X11_wrong 181 3 ν1) fun _ μ13 => vl (nI (9 + i) + 1) fun x16 => some (0, (x16, μ13))) (fun t' (s' : Int32 × fMem) => (t' = 0 ∧ i < n ∧ (s'.1 = nI (9 + (i + 1)) ∧ (((∃ i, i < n ∧ ((ν1.1 185 (9 + i) = nI a ∧ ν1.1 186 (9 + i) = nI c) ∨ (ν1.1 185 (9 + i) = nI c ∧ ν1.1 186 (9 + i) = nI a))) ∧ (∀ k', RS b N t K s'.2 (some (3, k)) k') ∧ Kx AGx BN ν1 s'.2) ∨ ((∀ j, j < i + 1 → ¬ ((ν1.1 185 (9 + j) = nI a ∧ ν1.1 186 (9 + j) = nI c) ∨ (ν1.1 185 (9 + j) = nI c ∧ ν1.1 186 (9 + j) = nI a))) ∧ s'.2 = ν1)))) ∨ ∃ u, t' = u + 1 ∧ (((∃ i, i < n ∧ ((ν1.1 185 (9 + i) = nI a ∧ ν1.1 186 (9 + i) = nI c) ∨ (ν1.1 185 (9 + i) = nI c ∧ ν1.1 186 (9 + i) = nI a))) ∧ (∀ k', RS b N t K s'.2 (some (3, k)) k') ∧ Kx AGx BN ν1 s'.2) ∨ ((¬ ∃ i, i < n ∧ ((ν1.1 185 (9 + i) = nI a ∧ ν1.1 186 (9 + i) = nI c) ∨ (ν1.1 185 (9 + i) = nI c ∧ ν1.1 186 (9 + i) = nI a))) ∧ s'.2 = ν1))) := by
        intro hh
        obtain ⟨ν', e, h1, K1⟩ := wrong_S h (c := 3) (by decide)
        rw [show (3 : Int32) = nI 3 from rfl, e, bd_some, Ok_vl, Ok_some, nI_1]
        exact Or.inl ⟨rfl, q, rfl, Or.inl ⟨⟨i, q, hh⟩, h1, K1⟩⟩
      have miss : ¬ ((ν1.1 185 (9 + i) = nI a ∧ ν1.1 186 (9 + i) = nI c) ∨ (ν1.1 185 (9 + i) = nI c ∧ ν1.1 186 (9 + i) = nI a)) → Ok (vl (nI (9 + i) + 1) fun x16 => some (0, (x16, ν1))) (fun t' (s' : Int32 × fMem) => (t' = 0 ∧ i < n ∧ (s'.1 = nI (9 + (i + 1)) ∧ (((∃ i, i < n ∧ ((ν1.1 185 (9 + i) = nI a ∧ ν1.1 186 (9 + i) = nI c) ∨ (ν1.1 185 (9 + i) = nI c ∧ ν1.1 186 (9 + i) = nI a))) ∧ (∀ k', RS b N t K s'.2 (some (3, k)) k') ∧ Kx AGx BN ν1 s'.2) ∨ ((∀ j, j < i + 1 → ¬ ((ν1.1 185 (9 + j) = nI a ∧ ν1.1 186 (9 + j) = nI c) ∨ (ν1.1 185 (9 + j) = nI c ∧ ν1.1 186 (9 + j) = nI a))) ∧ s'.2 = ν1)))) ∨ ∃ u, t' = u + 1 ∧ (((∃ i, i < n ∧ ((ν1.1 185 (9 + i) = nI a ∧ ν1.1 186 (9 + i) = nI c) ∨ (ν1.1 185 (9 + i) = nI c ∧ ν1.1 186 (9 + i) = nI a))) ∧ (∀ k', RS b N t K s'.2 (some (3, k)) k') ∧ Kx AGx BN ν1 s'.2) ∨ ((¬ ∃ i, i < n ∧ ((ν1.1 185 (9 + i) = nI a ∧ ν1.1 186 (9 + i) = nI c) ∨ (ν1.1 185 (9 + i) = nI c ∧ ν1.1 186 (9 + i) = nI a))) ∧ s'.2 = ν1))) := by
        intro hh
        rw [Ok_vl, Ok_some, nI_1]
        refine Or.inl ⟨rfl, q, rfl, Or.inr ⟨fun j hj => ?_, rfl⟩⟩
        rcases Nat.lt_or_ge j i with z | z
        · exact o1 j z
        · rw [show j = i by omega]; exact hh
      by_cases p1 : ν1.1 185 (9 + i) = nI a
      · by_cases p2 : ν1.1 186 (9 + i) = nI c
        · rw [if_pos p1, if_pos p2]; exact hit (Or.inl ⟨p1, p2⟩)
        · rw [if_pos p1, if_neg p2]
          by_cases p3 : ν1.1 185 (9 + i) = nI c
          · by_cases p4 : ν1.1 186 (9 + i) = nI a
            · rw [if_pos p3, if_pos p4]; exact hit (Or.inr ⟨p3, p4⟩)
            · rw [if_pos p3, if_neg p4]; exact miss (fun z => z.elim (fun z => p2 z.2) (fun z => p4 z.2))
          · rw [if_neg p3]; exact miss (fun z => z.elim (fun z => p2 z.2) (fun z => p3 z.1))
      · rw [if_neg p1]
        by_cases p3 : ν1.1 185 (9 + i) = nI c
        · by_cases p4 : ν1.1 186 (9 + i) = nI a
          · rw [if_pos p3, if_pos p4]; exact hit (Or.inr ⟨p3, p4⟩)
          · rw [if_pos p3, if_neg p4]; exact miss (fun z => z.elim (fun z => p1 z.1) (fun z => p4 z.2))
        · rw [if_neg p3]; exact miss (fun z => z.elim (fun z => p1 z.1) (fun z => p3 z.1))
  · rw [if_pos (nI_le (show 9 + n ≤ 9 + i by omega) (by omega)), Ok_some]
    refine Or.inr ⟨0, rfl, ?_⟩
    rcases ho with o | ⟨o1, o2⟩
    · exact Or.inl o
    · exact Or.inr ⟨fun ⟨j, hj, z⟩ => o1 j (by omega) z, o2⟩
theorem line_door (T : Toks b N t K) (h36 : ∀ j, (t j).1 ≤ 36) (h : RS b N t K ν none k) (h22 : ¬ (t k).1 = 22) {m n : Nat} (hn : n < 9) (hm : m ≤ 6) (hc : ν.1 183 8 = nI n) (hc0 : ν.1 183 7 = nI m) {q1 q2 : Option Nat} (hq1 : fnd (fun j => decide (ν.1 184 (6 + j) = nI (t (k + 1)).2.2.1)) m = q1) (hq2 : fnd (fun j => decide (ν.1 184 (6 + j) = nI (t (k + 2)).2.2.1)) m = q2) {D : Nat → Nat → Bool} (hD0 : ∀ a, D a a = false) (hD : ∀ a c, a < 6 → c < 6 → (D a c = true ↔ ∃ i, i < n ∧ ((ν.1 185 (9 + i) = nI a ∧ ν.1 186 (9 + i) = nI c) ∨ (ν.1 185 (9 + i) = nI c ∧ ν.1 186 (9 + i) = nI a)))) {F : Option (Nat × Nat)} (hF : fs (fs none (roomC (t (k + 1)).1 q1) (k + 1)) (doorC (t (k + 2)).1 (q1.getD 0) q2 D) (k + 2) = F) (hG : ∀ ν' : fMem, RS b N t K ν' F (k + 3) → Kx (fun a j => AGx a j ∨ (a = 181 ∧ j = 21) ∨ ((a = 185 ∨ a = 186) ∧ j = 9 + n) ∨ (a = 183 ∧ j = 8)) BN ν ν' → ν'.1 181 21 = (ν.1 181 21 ||| shl 1 (nI 1)) → (F = none → ∃ a c, q1 = some a ∧ q2 = some c ∧ ν'.1 185 (9 + n) = nI a ∧ ν'.1 186 (9 + n) = nI c ∧ ν'.1 183 8 = nI (n + 1)) → Ok (f_X11_line_j415 181 ν') Q) : Ok (f_X11_line_j65 181 (nI 1) ν) Q := by
  unfold f_X11_line_j65
  simp only [Nat.reduceAdd]
  rw [if_pos h.2.2.1, Ok_vl, Ok_bd]
  refine (word_S T h h22 (w := 1)).mono ?_
  rintro - ν1 ⟨h1, K1, e21⟩
  have c1 : ν1.1 183 8 = nI n := by rw [K1.2.1 _ _ (by omega)]; exact hc
  rw [if_neg (by decide), if_pos (by decide), fr1 c1, bd_some, show (9 : Int32) + nI n = nI (9 + n) from nI_add 9 n, Ok_bd]
  unfold f_X11_doorLine
  rw [Ok_bd]
  refine (roomAhead_spec T h1 hm (by rw [K1.2.1 _ _ (by omega)]; exact hc0) (q := q1) (by rw [← hq1]; exact fnd_congr fun i hi => by rw [K1.2.1 _ _ (by omega)])).mono ?_
  rintro r2 ν2 ⟨h2, e2, K2⟩
  rw [Ok_bd]
  have K02 : Kx (fun a j => AGx a j ∨ (a = 181 ∧ j = 21)) BN ν ν2 := K1.trans (K2.wide (fun a j h => by omega) (fun _ _ h => h))
  refine (roomAtHand_spec T h2 hm (by rw [K02.2.1 _ _ (by omega)]; exact hc0) (q := q2) (by rw [← hq2]; exact fnd_congr fun i hi => by rw [K02.2.1 _ _ (by omega)])).mono ?_
  rintro r3 ν3 ⟨h3, e3, K3⟩
  have K03 : Kx (fun a j => AGx a j ∨ (a = 181 ∧ j = 21)) BN ν ν3 := K02.trans (K3.wide (fun a j h => by omega) (fun _ _ h => h))
  have e3' : ν3.1 181 21 = (ν.1 181 21 ||| shl 1 (nI 1)) := by rw [K3.2.1 _ _ (by omega), K2.2.1 _ _ (by omega)]; exact e21
  rw [Ok_bd]
  -- a fault already
  have bad : ∀ (x : Nat × Nat) (ν4 : fMem), F = some x → (∀ k', RS b N t K ν4 (some x) k') → Kx (fun a j => AGx a j ∨ (a = 181 ∧ j = 21)) BN ν ν4 → ν4.1 181 21 = (ν.1 181 21 ||| shl 1 (nI 1)) → Ok (f_X11_doorLine_j99 181 (nI (9 + n)) r2 r3 ν4) (fun _ μ43 => Ok (f_X11_line_j415 181 μ43) Q) := by
    intro x ν4 hx h4 K4 e4
    unfold f_X11_doorLine_j99
    rw [goOn_f (h4 k).ne, bd_some, if_neg (h4 k).ne, Ok_some]
    exact hG ν4 (by rw [hx]; exact h4 _) (K4.wide (fun a j h => by omega) (fun _ _ h => h)) e4 (fun z => by rw [hx] at z; cases z)
  cases e1 : fs none (roomC (t (k + 1)).1 q1) (k + 1) with
  | some x =>
    rw [e1] at h2 h3 hF
    refine Ok.mono (Q := fun _ (q : Int32 × fMem) => q.2 = ν3) (Ok_lp 0 (fun _ (q : Int32 × fMem) => q = (9, ν3)) (by decide) rfl ?_) ?_
    · rintro i q - rfl
      dsimp only
      unfold f_X11_doorLine_L14
      rw [if_neg (RS.ne h3), ite_self, Ok_some]
      exact Or.inr ⟨0, rfl, rfl⟩
    · rintro - ⟨x1, ν4⟩ hν
      dsimp only at hν ⊢
      subst hν
      rw [if_neg (RS.ne h3)]
      exact bad x ν4 hF.symm (fun _ => h3) K03 e3'
  | none =>
    rw [e1] at h2 h3 hF
    obtain ⟨a, ea, ha, rfl⟩ := e2 e1
    subst ea
    rw [e1] at e3
    cases e4 : fs none (roomC (t (k + 2)).1 q2) (k + 2) with
    | some x =>
      rw [e4] at h3
      have hx : F = some x := by
        rw [← hF, ← e4]
        unfold roomC doorC
        by_cases z : (t (k + 2)).1 = 20
        · rw [if_pos z, if_pos z]
          cases q2 with
          | none => rfl
          | some c => rw [show roomC (t (k + 2)).1 (some c) = 0 by unfold roomC; rw [if_pos z], fs_0 rfl] at e4; cases e4
        · rw [if_neg z, if_neg z]
      refine Ok.mono (Q := fun _ (q : Int32 × fMem) => q.2 = ν3) (Ok_lp 0 (fun _ (q : Int32 × fMem) => q = (9, ν3)) (by decide) rfl ?_) ?_
      · rintro i q - rfl
        dsimp only
        unfold f_X11_doorLine_L14
        rw [if_neg (RS.ne h3), ite_self, Ok_some]
        exact Or.inr ⟨0, rfl, rfl⟩
      · rintro - ⟨x1, ν4⟩ hν
        dsimp only at hν ⊢
        subst hν
        rw [if_neg (RS.ne h3)]
        exact bad x ν4 hx (fun _ => h3) K03 e3'
    | none =>
      rw [e4] at h3
      obtain ⟨c20, c, ec, hcm, rfl⟩ := e3 e4
      subst ec
      have hdD := hD a c (by omega) (by omega)
      have hC : doorC (t (k + 2)).1 a (some c) D = if a = c then 5 else if D a c = true then 3 else 0 := by unfold doorC; rw [if_pos c20]
      rw [Option.getD_some, hC] at hF
      refine (door_loop T h3 (n := n) (a := a) (c := c) (by omega) ⟨by omega, by omega⟩).mono ?_
      have eD : ∀ i, (((ν3.1 185 (9 + i) = nI a ∧ ν3.1 186 (9 + i) = nI c) ∨ (ν3.1 185 (9 + i) = nI c ∧ ν3.1 186 (9 + i) = nI a)) ↔ ((ν.1 185 (9 + i) = nI a ∧ ν.1 186 (9 + i) = nI c) ∨ (ν.1 185 (9 + i) = nI c ∧ ν.1 186 (9 + i) = nI a))) := by
        intro i
        rw [K03.2.1 185 _ (by omega), K03.2.1 186 _ (by omega)]
      simp only [eD]
      rw [← hdD]
      rintro - ⟨x1, ν4⟩ (⟨o1, o2, o3⟩ | ⟨o1, o2⟩)
      · dsimp only at o2 o3 ⊢
        have nac : ¬ a = c := fun z => by rw [z, hD0 c] at o1; cases o1
        rw [if_neg nac, if_pos o1, fs_n (by decide)] at hF
        rw [if_neg (RS.ne (o2 k))]
        exact bad _ ν4 hF.symm o2 (K03.trans (o3.wide (fun a j h => by omega) (fun _ _ h => h))) (by rw [o3.2.1 _ _ (by omega)]; exact e3')
      · dsimp only at o2 ⊢
        subst o2
        rw [if_pos h3.2.2.1]
        by_cases eac : a = c
        · rw [if_pos eac, fs_n (by decide)] at hF
          obtain ⟨ν', e, h5, K5⟩ := wrong_S h3 (c := 5) (by decide)
          rw [if_pos (by rw [eac]), show (5 : Int32) = nI 5 from rfl, e, bd_some]
          exact bad _ ν' hF.symm h5 (K03.trans (K5.wide (fun a j h => by omega) (fun _ _ h => h))) (by rw [K5.2.1 _ _ (by omega)]; exact e3')
        · rw [if_neg eac, if_neg o1, fs_0 rfl] at hF
          rw [if_neg (fun z => eac ((nI_eq (by omega) (by omega)).mp z))]
          unfold f_X11_doorLine_j99
          rw [Ok_bd]
          refine (goOn_S T h3 (fun _ => by omega)).mono ?_
          rintro - ν5 ⟨h5, K5⟩
          have hix : ixo (nI (9 + n)) 18 := ixN (by omega) (by decide)
          have hcl : (nI (9 + n)).toNatClampNeg = 9 + n := nI_clamp (by omega)
          simp only [Nat.reduceAdd, gd_t hix, hcl]
          rw [if_pos h5.2.2.1, Ok_vl, Ok_vl]
          have K6 : Kx (fun a j => (a = 185 ∨ a = 186) ∧ j = 9 + n) BN ν5 (sI (sI ν5 185 (9 + n) (nI a)) 186 (9 + n) (nI c)) := (Kx.rfl'.sI ⟨Or.inl rfl, rfl⟩).sI ⟨Or.inr rfl, rfl⟩
          have g5 : (sI (sI ν5 185 (9 + n) (nI a)) 186 (9 + n) (nI c)).1 185 (9 + n) = nI a := by rw [sI_i, if_neg (by omega), sI_i, if_pos ⟨rfl, rfl⟩]
          have g6 : (sI (sI ν5 185 (9 + n) (nI a)) 186 (9 + n) (nI c)).1 186 (9 + n) = nI c := by rw [sI_i, if_pos ⟨rfl, rfl⟩]
          generalize sI (sI ν5 185 (9 + n) (nI a)) 186 (9 + n) (nI c) = ν6 at K6 g5 g6 ⊢
          have c6 : ν6.1 183 8 = nI n := by rw [K6.2.1 _ _ (by omega), K5.2.1 _ _ (by omega), K3.2.1 _ _ (by omega), K2.2.1 _ _ (by omega)]; exact c1
          rw [fr1 c6, bd_some, nI_1, rd1, bd_some, Ok_some]
          have K7 : Kx (fun a j => a = 183 ∧ j = 8) BN ν6 (sI ν6 183 8 (nI (n + 1))) := Kx.rfl'.sI ⟨rfl, rfl⟩
          refine hG _ (by rw [← hF]; exact (h5.of K6 (fun a j z => by omega)).of K7 (fun a j z => by omega)) ((((K03.wide (fun a j h => by omega) (fun _ _ h => h)).trans (K5.wide (fun a j h => by omega) (fun _ _ h => h))).trans (K6.wide (fun a j h => by omega) (fun _ _ h => h))).trans (K7.wide (fun a j h => by omega) (fun _ _ h => h))) ?_ (fun _ => ⟨a, c, rfl, rfl, ?_, ?_, ?_⟩)
          · rw [K7.2.1 _ _ (by omega), K6.2.1 _ _ (by omega), K5.2.1 _ _ (by omega)]; exact e3'
          · rw [K7.2.1 _ _ (by omega)]; exact g5
          · rw [K7.2.1 _ _ (by omega)]; exact g6
          · rw [sI_i, if_pos ⟨rfl, rfl⟩]
end RLine3
