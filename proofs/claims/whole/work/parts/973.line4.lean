/-! lines, as the reference reads them -/
section RLine2
variable {b : Nat → Nat} {N : Nat} {t : TQ} {K k : Nat} {ν : fMem} {Q : Unit → fMem → Prop}
theorem nI8 (a n : Nat) : nI a + nI n = nI (a + n) := nI_add a n
theorem fr0 {v : Nat} (h : ν.1 183 7 = nI v) : f_X11_fresher 181 0 ν = some (nI v, ν) := fresher_eq (w := 0) (by decide) h
theorem fr1 {v : Nat} (h : ν.1 183 8 = nI v) : f_X11_fresher 181 1 ν = some (nI v, ν) := fresher_eq (w := 1) (by decide) h
theorem fr2 {v : Nat} (h : ν.1 183 9 = nI v) : f_X11_fresher 181 2 ν = some (nI v, ν) := fresher_eq (w := 2) (by decide) h
theorem fr3 {v : Nat} (h : ν.1 183 10 = nI v) : f_X11_fresher 181 3 ν = some (nI v, ν) := fresher_eq (w := 3) (by decide) h
theorem fr4 {v : Nat} (h : ν.1 183 11 = nI v) : f_X11_fresher 181 4 ν = some (nI v, ν) := fresher_eq (w := 4) (by decide) h
theorem fr6 {v : Nat} (h : ν.1 183 13 = nI v) : f_X11_fresher 181 6 ν = some (nI v, ν) := fresher_eq (w := 6) (by decide) h
theorem rd0 (v : Int32) : f_X11_reads 181 0 v ν = some ((), sI ν 183 7 v) := reads_eq (w := 0) (by decide) v
theorem rd1 (v : Int32) : f_X11_reads 181 1 v ν = some ((), sI ν 183 8 v) := reads_eq (w := 1) (by decide) v
theorem rd2 (v : Int32) : f_X11_reads 181 2 v ν = some ((), sI ν 183 9 v) := reads_eq (w := 2) (by decide) v
theorem rd3 (v : Int32) : f_X11_reads 181 3 v ν = some ((), sI ν 183 10 v) := reads_eq (w := 3) (by decide) v
theorem rd4 (v : Int32) : f_X11_reads 181 4 v ν = some ((), sI ν 183 11 v) := reads_eq (w := 4) (by decide) v
theorem rd5 (v : Int32) : f_X11_reads 181 5 v ν = some ((), sI ν 183 12 v) := reads_eq (w := 5) (by decide) v
/-- the line's word is noted and left -/
theorem word_S (T : Toks b N t K) (h : RS b N t K ν none k) (h22 : ¬ (t k).1 = 22) {w : Nat} : Ok (f_X11_token 181 (sI ν 181 21 (ν.1 181 21 ||| shl 1 (nI w)))) (fun _ ν' => RS b N t K ν' none (k + 1) ∧ Kx (fun a j => AGx a j ∨ (a = 181 ∧ j = 21)) BN ν ν' ∧ ν'.1 181 21 = (ν.1 181 21 ||| shl 1 (nI w))) := by
  have K0 : Kx (fun a j => a = 181 ∧ j = 21) BN ν (sI ν 181 21 (ν.1 181 21 ||| shl 1 (nI w))) := Kx.rfl'.sI ⟨rfl, rfl⟩
  have h0 : RS b N t K (sI ν 181 21 (ν.1 181 21 ||| shl 1 (nI w))) none k := h.of K0 (fun a j z => by omega)
  have e0 : (sI ν 181 21 (ν.1 181 21 ||| shl 1 (nI w))).1 181 21 = (ν.1 181 21 ||| shl 1 (nI w)) := by rw [sI_i, if_pos ⟨rfl, rfl⟩]
  generalize sI ν 181 21 (ν.1 181 21 ||| shl 1 (nI w)) = ν0 at K0 h0 e0 ⊢
  refine (token_S T h0 (h.lt T h22)).mono ?_
  rintro - ν1 ⟨h1, K1⟩
  exact ⟨h1, (K0.wide (fun _ _ h => Or.inr h) (fun _ _ h => h)).trans (K1.wide (fun _ _ h => Or.inl h) (fun _ _ h => h)), by rw [K1.2.1 _ _ (by omega)]; exact e0⟩
theorem line_room (T : Toks b N t K) (h : RS b N t K ν none k) (h22 : ¬ (t k).1 = 22) {n : Nat} (hn : n < 6) (hc : ν.1 183 7 = nI n) {q1 : Option Nat} (hq1 : fnd (fun j => decide (ν.1 184 (6 + j) = nI (t (k + 1)).2.2.1)) n = q1) (hG : ∀ ν' : fMem, RS b N t K ν' (fs none (nameC (t (k + 1)).1 q1) (k + 1)) (k + 2) → Kx (fun a j => AGx a j ∨ (a = 181 ∧ j = 21) ∨ (a = 184 ∧ j = 6 + n) ∨ (a = 183 ∧ j = 7)) BN ν ν' → ν'.1 181 21 = (ν.1 181 21 ||| shl 1 (nI 0)) → (fs none (nameC (t (k + 1)).1 q1) (k + 1) = none → ν'.1 184 (6 + n) = nI (t (k + 1)).2.2.1 ∧ ν'.1 183 7 = nI (n + 1)) → Ok (f_X11_line_j415 181 ν') Q) : Ok (f_X11_line_j65 181 (nI 0) ν) Q := by
  have kd184 : kd 184 = (0, 12) := by decide
  unfold f_X11_line_j65
  simp only [Nat.reduceAdd]
  rw [if_pos h.2.2.1, Ok_vl, Ok_bd]
  refine (word_S T h h22 (w := 0)).mono ?_
  rintro - ν1 ⟨h1, K1, e21⟩
  have c1 : ν1.1 183 7 = nI n := by rw [K1.2.1 _ _ (by omega)]; exact hc
  rw [if_pos (by decide), fr0 c1, bd_some, fr0 c1, bd_some, Ok_bd]
  refine (fresh_spec (f0 := 6) T h1 kd184 (by omega) (by decide) (q := q1) (by rw [← hq1]; exact fnd_congr fun i hi => by rw [K1.2.1 _ _ (by omega)])).mono ?_
  rintro r ν2 ⟨h2, e2, K2⟩
  rw [show (6 : Int32) + nI n = nI (6 + n) from nI_add 6 n, gd_t (ixN (by omega) (by decide)), nI_clamp (by omega), Ok_vl]
  have K3 : Kx (fun a j => a = 184 ∧ j = 6 + n) BN ν2 (sI ν2 184 (6 + n) r) := Kx.rfl'.sI ⟨rfl, rfl⟩
  have h3 := h2.of K3 (fun a j z => by omega)
  have e3 : (sI ν2 184 (6 + n) r).1 184 (6 + n) = r := by rw [sI_i, if_pos ⟨rfl, rfl⟩]
  generalize sI ν2 184 (6 + n) r = ν3 at K3 h3 e3 ⊢
  have c3 : ν3.1 183 7 = nI n := by rw [K3.2.1 _ _ (by omega), K2.2.1 _ _ (by omega)]; exact c1
  rw [fr0 c3, bd_some, nI_1, rd0, bd_some]
  have K4 : Kx (fun a j => a = 183 ∧ j = 7) BN ν3 (sI ν3 183 7 (nI (n + 1))) := Kx.rfl'.sI ⟨rfl, rfl⟩
  refine hG _ (h3.of K4 (fun a j z => by omega)) ((((K1.wide (fun a j h => by omega) (fun _ _ h => h)).trans (K2.wide (fun a j h => by omega) (fun _ _ h => h))).trans (K3.wide (fun a j h => by omega) (fun _ _ h => h))).trans (K4.wide (fun a j h => by omega) (fun _ _ h => h))) ?_ (fun z => ⟨?_, ?_⟩)
  · rw [K4.2.1 _ _ (by omega), K3.2.1 _ _ (by omega), K2.2.1 _ _ (by omega)]; exact e21
  · rw [K4.2.1 _ _ (by omega), e3]; exact e2 z
  · rw [sI_i, if_pos ⟨rfl, rfl⟩]
theorem line_thing (T : Toks b N t K) (h36 : ∀ j, (t j).1 ≤ 36) (h : RS b N t K ν none k) (h22 : ¬ (t k).1 = 22) {m n : Nat} (hn : n < 8) (hm : m ≤ 6) (hc : ν.1 183 9 = nI n) (hc0 : ν.1 183 7 = nI m) {q1 q2 : Option Nat} (hq1 : fnd (fun j => decide (ν.1 187 (8 + j) = nI (t (k + 1)).2.2.1)) n = q1) (hq2 : fnd (fun j => decide (ν.1 184 (6 + j) = nI (t (k + 2)).2.2.1)) m = q2) {F : Option (Nat × Nat)} (hF : fs (fs (fs (fs none (nameC (t (k + 1)).1 q1) (k + 1)) (roomC (t (k + 2)).1 q2) (k + 2)) (numC (t (k + 3)).1 (t (k + 3)).2.2.1 5) (k + 3)) (numC (t (k + 4)).1 (t (k + 4)).2.2.1 9) (k + 4) = F) (hG : ∀ ν' : fMem, RS b N t K ν' F (k + 5) → Kx (fun a j => AGx a j ∨ (a = 181 ∧ j = 21) ∨ (187 ≤ a ∧ a ≤ 190 ∧ j = 8 + n) ∨ (a = 183 ∧ j = 9)) BN ν ν' → ν'.1 181 21 = (ν.1 181 21 ||| shl 1 (nI 2)) → (F = none → ν'.1 187 (8 + n) = nI (t (k + 1)).2.2.1 ∧ (∃ a, q2 = some a ∧ a < m ∧ ν'.1 188 (8 + n) = nI a) ∧ (ν'.1 189 (8 + n) = nI (t (k + 3)).2.2.1 ∧ (t (k + 3)).2.2.1 ≤ 5) ∧ (ν'.1 190 (8 + n) = nI (t (k + 4)).2.2.1 ∧ (t (k + 4)).2.2.1 ≤ 9) ∧ ν'.1 183 9 = nI (n + 1)) → Ok (f_X11_line_j415 181 ν') Q) : Ok (f_X11_line_j65 181 (nI 2) ν) Q := by
  have kd187 : kd 187 = (0, 16) := by decide
  have hix : ixo (nI (8 + n)) 16 := ixN (by omega) (by decide)
  have hcl : (nI (8 + n)).toNatClampNeg = 8 + n := nI_clamp (by omega)
  unfold f_X11_line_j65
  simp only [Nat.reduceAdd]
  rw [if_pos h.2.2.1, Ok_vl, Ok_bd]
  refine (word_S T h h22 (w := 2)).mono ?_
  rintro - ν1 ⟨h1, K1, e21⟩
  have c1 : ν1.1 183 9 = nI n := by rw [K1.2.1 _ _ (by omega)]; exact hc
  rw [if_neg (by decide), if_neg (by decide), if_pos (by decide), fr2 c1, bd_some, Ok_vl, show (8 : Int32) + nI n = nI (8 + n) from nI_add 8 n, fr2 c1, bd_some, Ok_bd]
  simp only [gd_t hix, hcl]
  refine (fresh_spec (f0 := 8) T h1 kd187 (by omega) (by decide) (q := q1) (by rw [← hq1]; exact fnd_congr fun i hi => by rw [K1.2.1 _ _ (by omega)])).mono ?_
  rintro r ν2 ⟨h2, e2, K2⟩
  rw [Ok_vl]
  have K3 : Kx (fun a j => a = 187 ∧ j = 8 + n) BN ν2 (sI ν2 187 (8 + n) r) := Kx.rfl'.sI ⟨rfl, rfl⟩
  have h3 := h2.of K3 (fun a j z => by omega)
  have e3 : (sI ν2 187 (8 + n) r).1 187 (8 + n) = r := by rw [sI_i, if_pos ⟨rfl, rfl⟩]
  generalize sI ν2 187 (8 + n) r = ν3 at K3 h3 e3 ⊢
  have K03 := ((K1.wide (A' := fun a j => AGx a j ∨ (a = 181 ∧ j = 21) ∨ (187 ≤ a ∧ a ≤ 190 ∧ j = 8 + n) ∨ (a = 183 ∧ j = 9)) (B' := BN) (fun a j h => by omega) (fun _ _ h => h)).trans (K2.wide (fun a j h => by omega) (fun _ _ h => h))).trans (K3.wide (fun a j h => by omega) (fun _ _ h => h))
  rw [Ok_bd]
  refine (roomAhead_spec T h3 hm (by rw [K03.2.1 _ _ (by omega)]; exact hc0) (q := q2) (by rw [← hq2]; exact fnd_congr fun i hi => by rw [K03.2.1 _ _ (by omega)])).mono ?_
  rintro r4 ν4 ⟨h4, e4, K4⟩
  rw [Ok_vl]
  have K5 : Kx (fun a j => a = 188 ∧ j = 8 + n) BN ν4 (sI ν4 188 (8 + n) r4) := Kx.rfl'.sI ⟨rfl, rfl⟩
  have h5 := h4.of K5 (fun a j z => by omega)
  have e5 : (sI ν4 188 (8 + n) r4).1 188 (8 + n) = r4 := by rw [sI_i, if_pos ⟨rfl, rfl⟩]
  generalize sI ν4 188 (8 + n) r4 = ν5 at K5 h5 e5 ⊢
  rw [Ok_bd]
  refine (numeral_spec (M := 5) T (h36 _) h5 (by decide)).mono ?_
  rintro r6 ν6 ⟨h6, e6, K6⟩
  rw [Ok_vl]
  have K7 : Kx (fun a j => a = 189 ∧ j = 8 + n) BN ν6 (sI ν6 189 (8 + n) r6) := Kx.rfl'.sI ⟨rfl, rfl⟩
  have h7 := h6.of K7 (fun a j z => by omega)
  have e7 : (sI ν6 189 (8 + n) r6).1 189 (8 + n) = r6 := by rw [sI_i, if_pos ⟨rfl, rfl⟩]
  generalize sI ν6 189 (8 + n) r6 = ν7 at K7 h7 e7 ⊢
  rw [Ok_bd]
  refine (numeral_spec (M := 9) T (h36 _) h7 (by decide)).mono ?_
  rintro r8 ν8 ⟨h8, e8, K8⟩
  rw [Ok_vl]
  have K9 : Kx (fun a j => a = 190 ∧ j = 8 + n) BN ν8 (sI ν8 190 (8 + n) r8) := Kx.rfl'.sI ⟨rfl, rfl⟩
  have h9 := h8.of K9 (fun a j z => by omega)
  have e9 : (sI ν8 190 (8 + n) r8).1 190 (8 + n) = r8 := by rw [sI_i, if_pos ⟨rfl, rfl⟩]
  generalize sI ν8 190 (8 + n) r8 = ν9 at K9 h9 e9 ⊢
  have K09 := (((((K03.trans (K4.wide (fun a j h => by omega) (fun _ _ h => h))).trans (K5.wide (fun a j h => by omega) (fun _ _ h => h))).trans (K6.wide (fun a j h => by omega) (fun _ _ h => h))).trans (K7.wide (fun a j h => by omega) (fun _ _ h => h))).trans (K8.wide (fun a j h => by omega) (fun _ _ h => h))).trans (K9.wide (fun a j h => by omega) (fun _ _ h => h))
  have c9 : ν9.1 183 9 = nI n := by rw [K9.2.1 _ _ (by omega), K8.2.1 _ _ (by omega), K7.2.1 _ _ (by omega), K6.2.1 _ _ (by omega), K5.2.1 _ _ (by omega), K4.2.1 _ _ (by omega), K3.2.1 _ _ (by omega), K2.2.1 _ _ (by omega)]; exact c1
  rw [fr2 c9, bd_some, nI_1, rd2, bd_some]
  have KA : Kx (fun a j => a = 183 ∧ j = 9) BN ν9 (sI ν9 183 9 (nI (n + 1))) := Kx.rfl'.sI ⟨rfl, rfl⟩
  refine hG _ (by rw [← hF]; exact h9.of KA (fun a j z => by omega)) (K09.trans (KA.wide (fun a j h => by omega) (fun _ _ h => h))) ?_ (fun z => ?_)
  · rw [KA.2.1 _ _ (by omega), K9.2.1 _ _ (by omega), K8.2.1 _ _ (by omega), K7.2.1 _ _ (by omega), K6.2.1 _ _ (by omega), K5.2.1 _ _ (by omega), K4.2.1 _ _ (by omega), K3.2.1 _ _ (by omega), K2.2.1 _ _ (by omega)]; exact e21
  · rw [← hF] at z
    have z3 : fs (fs (fs none (nameC (t (k + 1)).1 q1) (k + 1)) (roomC (t (k + 2)).1 q2) (k + 2)) (numC (t (k + 3)).1 (t (k + 3)).2.2.1 5) (k + 3) = none := by
      cases e : fs (fs (fs none (nameC (t (k + 1)).1 q1) (k + 1)) (roomC (t (k + 2)).1 q2) (k + 2)) (numC (t (k + 3)).1 (t (k + 3)).2.2.1 5) (k + 3) with
      | none => rfl
      | some x => rw [e] at z; cases z
    have z2 : fs (fs none (nameC (t (k + 1)).1 q1) (k + 1)) (roomC (t (k + 2)).1 q2) (k + 2) = none := by
      cases e : fs (fs none (nameC (t (k + 1)).1 q1) (k + 1)) (roomC (t (k + 2)).1 q2) (k + 2) with
      | none => rfl
      | some x => rw [e] at z3; cases z3
    have z1 : fs none (nameC (t (k + 1)).1 q1) (k + 1) = none := by
      cases e : fs none (nameC (t (k + 1)).1 q1) (k + 1) with
      | none => rfl
      | some x => rw [e] at z2; cases z2
    have w1 := e2 z1
    obtain ⟨a, w2, w2b, w2c⟩ := e4 z2
    have w3 := e6 z3
    have w4 := e8 z
    refine ⟨?_, ⟨a, w2, w2b, ?_⟩, ⟨?_, w3.2⟩, ⟨?_, w4.2⟩, by rw [sI_i, if_pos ⟨rfl, rfl⟩]⟩
    · rw [KA.2.1 _ _ (by omega), K9.2.1 _ _ (by omega), K8.2.1 _ _ (by omega), K7.2.1 _ _ (by omega), K6.2.1 _ _ (by omega), K5.2.1 _ _ (by omega), K4.2.1 _ _ (by omega), e3]; exact w1
    · rw [KA.2.1 _ _ (by omega), K9.2.1 _ _ (by omega), K8.2.1 _ _ (by omega), K7.2.1 _ _ (by omega), K6.2.1 _ _ (by omega), e5]; exact w2c
    · rw [KA.2.1 _ _ (by omega), K9.2.1 _ _ (by omega), K8.2.1 _ _ (by omega), e7]; exact w3.1
    · rw [KA.2.1 _ _ (by omega), e9]; exact w4.1
end RLine2
