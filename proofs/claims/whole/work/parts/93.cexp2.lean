/-! .. behind a value, and all of a law -/
section CExp2
variable {μ : fMem} {y lw : Nat} {t : TQ} {K k : Nat}
theorem readBehind_spec (hl : LWc y lw) (hr : μ.2.2 30 3 = y) (hT : CT μ t K k) (hs : (t k).1 ≤ 36) {st : List Nat} {o : List (Int32 × Int32)} {kn op base : Nat} (hI : Iv base (true, k, st, o, kn, op)) (H : CE0 μ y lw st o kn op) (hne : ¬ ((t k).1 = 24 ∧ op = 0)) : Ok (f_X5_readBehindValue 30 lw (nI (t k).1) μ) (fun r μ' => SO μ y lw t k (stp t (true, k, st, o, kn, op)) r μ') := by
  obtain ⟨i1, i2, i3, i4, i5, i6, i7⟩ := id hI
  dsimp only at i1 i2 i3 i4 i5 i6 i7
  have ls := len_st st
  obtain ⟨a1, a2, a3, a4, a5, a6⟩ := id H
  show Ok _ (fun r μ' => SO μ y lw t k (stT t k st o kn op) r μ')
  unfold f_X5_readBehindValue stT
  generalize hsv : (t k).1 = s at hs hne ⊢
  rw [if_neg hne]
  have ne : ∀ x : Nat, x < 40 → ¬ s = x → ¬ nI s = nI x := fun x hx h z => h ((nI_eq (by omega) (by omega)).mp z)
  by_cases c26 : s = 26
  · rw [if_pos (show nI s = 26 by rw [c26]; rfl), if_pos c26, a3]
    by_cases c0 : 0 < op
    · rw [if_pos (show 0 < nI op from nI_lt (a := 0) c0 (by omega)), if_pos c0, Ok_vl, show nI op - 1 = nI (op - 1) by rw [show op = (op - 1) + 1 by omega, nI_pred]; rfl, Ok_bd]
      have K1 : Kx (AEX y lw) BN μ (sI μ 30 7 (nI (op - 1))) := Kx.rfl'.sI (by omega)
      have f : ∀ k j, ¬ (k = 30 ∧ j = 7) → (sI μ 30 7 (nI (op - 1))).1 k j = μ.1 k j := fun k j h => by rw [sI_i, if_neg h]
      have H1 : CE0 (sI μ 30 7 (nI (op - 1))) y lw st o kn (op - 1) := by
        refine ⟨by rw [f _ _ (by omega)]; exact a1, CW.of (fun j => f _ _ (by omega)) a2, by rw [sI_i, if_pos ⟨rfl, rfl⟩], a4.of' (f _ _ (by unfold LWc at hl; omega)) (fun k j a b => f _ _ (by unfold LWc at hl; omega)), ?_, by rw [f _ _ (by unfold LWc at hl; omega)]; exact a6⟩
        unfold Us at a5 ⊢
        rw [f _ _ (by unfold LWc at hl; omega)]
        exact a5
      refine (settle_spec hl (r := 1) ⟨by omega, by omega⟩ i5 (by omega) (by omega) H1).mono ?_
      rintro - μ2 ⟨H2, K2⟩
      obtain ⟨st', hst⟩ := hI.close c0
      rw [hst] at H2 ⊢
      obtain ⟨b1, b2, b3, b4, b5, b6⟩ := H2
      have iv := Iv.pop (r := 1) (by omega) hI
      have ln : st'.length + 1 ≤ 72 := by
        have := len_st (25 :: st')
        have q1 := iv.1
        have q2 := iv.2.2.1
        rw [hst] at q1 q2
        dsimp only at q1 q2
        rw [List.length_cons] at this
        omega
      rw [List.length_cons] at b1
      rw [b1, if_neg (nI_nle (by omega) (by omega)), Ok_vl, nI_pred, gd_t (Or.inr rfl), Ok_some]
      have g : ∀ k j, ¬ (k = 30 ∧ j = 6) → (sI μ2 30 6 (nI st'.length)).1 k j = μ2.1 k j := fun k j h => by rw [sI_i, if_neg h]
      have K1y : Kx (AEY y lw) BN μ (sI μ 30 7 (nI (op - 1))) := Kx.rfl'.sI (by omega)
      refine ⟨(K1.trans (K2.wide (fun k j h => by omega) (fun _ _ h => h))).sI (by omega), rfl, (K1y.trans (K2.wide (fun k j h => by omega) (fun _ _ h => h))).sI (by omega), ?_⟩
      show CE0 _ y lw st' (popR 1 st o).2 kn (op - 1)
      refine ⟨by rw [sI_i, if_pos ⟨rfl, rfl⟩], CW.of (fun j => g _ _ (by omega)) b2.2, by rw [g _ _ (by omega)]; exact b3, b4.of' (g _ _ (by unfold LWc at hl; omega)) (fun k j a b => g _ _ (by unfold LWc at hl; omega)), ?_, by rw [g _ _ (by unfold LWc at hl; omega)]; exact b6⟩
      unfold Us at b5 ⊢
      rw [g _ _ (by unfold LWc at hl; omega)]
      exact b5
    · rw [if_neg (show ¬ 0 < nI op by rw [show op = 0 by omega]; decide), if_neg c0]
      exact ko_fail hT 1 Kx.rfl'
  · rw [if_neg (show ¬ nI s = 26 from ne 26 (by decide) c26), if_neg c26, rank_eq hs, bd_some]
    have h6 := rk6 s
    by_cases c0 : rk s = 0
    · rw [c0, if_pos (by decide), if_pos (Or.inl rfl)]
      exact ko_fail hT 1 Kx.rfl'
    · rw [if_neg (nI_ne0 (by omega) (by omega))]
      by_cases c12 : s = 12
      · rw [if_pos (show nI s = 12 by rw [c12]; rfl), if_pos (Or.inr c12)]
        exact ko_fail hT 1 Kx.rfl'
      · rw [if_neg (show ¬ nI s = 12 from ne 12 (by decide) c12), if_neg (show ¬ (rk s = 0 ∨ s = 12) by omega)]
        have j112 : ∀ (μ2 : fMem) (st' : List Nat) (o' : List (Int32 × Int32)), Kx (AS lw) BN μ μ2 → CE0 μ2 y lw st' o' kn op → Iv base (true, k, st', o', kn, op) → Ok (f_X5_readBehindValue_j112 30 (nI s) μ2) (fun r μ' => SO μ y lw t k (if kn < 64 then .inr (false, k + 1, s :: st', o', kn + 1, op) else .inl 2) r μ') := by
          intro μ2 st' o' K2 H2 I2
          have K2' : Kx (AEX y lw) BN μ μ2 := K2.wide (fun k j h => by omega) (fun _ _ h => h)
          have hr2 : μ2.2.2 30 3 = y := by rw [K2.1]; exact hr
          obtain ⟨b1, b2, b3, b4, b5, b6⟩ := id H2
          obtain ⟨g1, g2, g3, g4, g5, g6, g7⟩ := I2
          dsimp only at g1 g2 g3 g4 g5 g6 g7
          have ls' := len_st st'
          unfold f_X5_readBehindValue_j112
          by_cases ck : kn < 64
          · rw [countKnot_eq hl hr2 b6 ck, bd_some, if_neg (by decide), if_pos ck, await_eq (st := st') (by rw [sI_i, if_neg (by unfold LWc at hl; omega)]; exact b1) (by omega), bd_some, if_neg (by decide), gd_t (Or.inr rfl), Ok_some]
            have K2y : Kx (AEY y lw) BN μ μ2 := K2.wide (fun k j h => by omega) (fun _ _ h => h)
            refine ⟨((K2'.sI (by omega)).sI (by omega)).sI (by omega), rfl, ((K2y.sI (by omega)).sI (by omega)).sI (by omega), ?_⟩
            exact H2.push (s := s) hl (fun k j h1 h2 => by rw [sI_i, if_neg (by omega)]) (by rw [sI_i, if_pos ⟨rfl, rfl⟩]) (by rw [sI_i, if_neg (by unfold LWc at hl; omega)]; exact b3)
          · rw [countKnot_full hl hr2 b6 ck i2, if_neg ck]
            obtain ⟨μ', e, K3, e0, e1⟩ := fail_eq (CT.ex hl hT K2') 2
            rw [e, bd_some, gd_t (Or.inl rfl), bd_some, if_pos rfl, gd_t (Or.inl rfl), Ok_some]
            exact ⟨K2'.trans (K3.wide (fun k j h => by omega) (fun _ _ h => h)), rfl, e0, e1⟩
        by_cases c4 : rk s = 4
        · rw [if_pos (show nI (rk s) = 4 by rw [c4]; rfl)]
          unfold f_X5_readBehindValue_j87
          rw [Ok_bd]
          refine (settle_spec hl (r := 5) ⟨by omega, by omega⟩ i5 (by omega) (by omega) H).mono ?_
          rintro - μ2 ⟨H2, K2⟩
          have I2 := Iv.pop (r := 5) (by omega) hI
          have K2' : Kx (AEX y lw) BN μ μ2 := K2.wide (fun k j h => by omega) (fun _ _ h => h)
          rw [if_pos (show nI (rk s) = 4 by rw [c4]; rfl)]
          simp only [if_pos c4]
          generalize popR 5 st o = w at H2 I2 ⊢
          obtain ⟨st', o'⟩ := w
          dsimp only at H2 I2 ⊢
          obtain ⟨b1, b2, -⟩ := id H2
          have hh := headD_le I2.2.2.2.2.1
          dsimp only at hh
          have ls' := len_st st'
          have q1 := I2.1
          have q2 := I2.2.2.1
          dsimp only at q1 q2
          rw [latest_eq b1 b2 (by omega), bd_some, rank_eq hh.1, bd_some, hh.2]
          by_cases cb : rkt st' = 4
          · rw [cb, if_pos (by decide), if_pos ⟨c4, rfl⟩]
            exact ko_fail (CT.ex hl hT K2') 1 K2'
          · have : rkt st' ≤ 6 := by rw [← hh.2]; exact rk6 _
            rw [if_neg (show ¬ nI (rkt st') = 4 from fun z => cb ((nI_eq (b := 4) (by omega) (by decide)).mp z)), if_neg (fun z => cb z.2)]
            exact j112 μ2 st' o' K2 H2 I2
        · rw [if_neg (show ¬ nI (rk s) = 4 from fun z => c4 ((nI_eq (b := 4) (by omega) (by decide)).mp z))]
          unfold f_X5_readBehindValue_j87
          rw [Ok_bd]
          refine (settle_spec hl (r := rk s) ⟨by omega, by omega⟩ i5 (by omega) (by omega) H).mono ?_
          rintro - μ2 ⟨H2, K2⟩
          have I2 := Iv.pop (r := rk s) (by omega) hI
          rw [if_neg (show ¬ nI (rk s) = 4 from fun z => c4 ((nI_eq (b := 4) (by omega) (by decide)).mp z)), if_neg (fun z => c4 z.1)]
          simp only [if_neg c4]
          exact j112 μ2 _ _ K2 H2 I2
/-- where a step leads -/
theorem stp_k : ∀ {x x' : ES}, stp t x = .inr x' → x'.2.1 = x.2.1 + 1 ∧ (x'.1 = true ↔ ((t x.2.1).1 = 21 ∨ (t x.2.1).1 = 26 ∨ (13 ≤ (t x.2.1).1 ∧ (t x.2.1).1 ≤ 19))) ∧ ¬ (t x.2.1).1 = 22
  | (false, k, st, o, kn, op), x', e => by
    change stF t k st o kn op = .inr x' at e
    unfold stF at e
    split at e
    · split at e
      · cases e
        exact ⟨rfl, ⟨fun z => (by cases z), fun z => (by dsimp only at z; omega)⟩, by dsimp only; omega⟩
      · cases e
    · split at e
      · split at e
        · cases e
          exact ⟨rfl, ⟨fun z => (by cases z), fun z => (by dsimp only at z; omega)⟩, by dsimp only; omega⟩
        · cases e
      · split at e
        · split at e
          · split at e
            · cases e
            · cases e
              exact ⟨rfl, ⟨fun _ => by dsimp only; omega, fun _ => rfl⟩, by dsimp only; omega⟩
          · cases e
        · cases e
  | (true, k, st, o, kn, op), x', e => by
    change stT t k st o kn op = .inr x' at e
    unfold stT at e
    have r0 : ∀ s, ¬ rk s = 0 → 10 ≤ s ∧ (s ≤ 12 ∨ (27 ≤ s ∧ s ≤ 36)) := by
      intro s h
      unfold rk at h
      repeat' split at h
      all_goals omega
    split at e
    · cases e
    · split at e
      · split at e
        · cases e
          exact ⟨rfl, ⟨fun _ => by dsimp only; omega, fun _ => rfl⟩, by dsimp only; omega⟩
        · cases e
      · split at e
        · cases e
        · rename_i q
          have r1 := r0 (t k).1 (fun z => q (Or.inl z))
          split at e
          · cases e
          · split at e
            · cases e
              exact ⟨rfl, ⟨fun z => (by cases z), fun z => (by dsimp only at z; omega)⟩, by dsimp only; omega⟩
            · cases e
/-- the whole of a law's E -/
theorem readExpr_spec (hl : LWc y lw) (hr : μ.2.2 30 3 = y) (hK : K ≤ 700) (hTk : ∀ j, (t j).1 ≤ 36 ∧ ((t j).1 = 21 → (t j).2.2.1 < 2 ^ 31)) (hE : (t K).1 = 22) (hT : CT μ t K k) {kn : Nat} (hkn : kn ≤ 64) (h2 : μ.1 y 2 = nI kn) (hc : CL μ lw []) : Ok (f_X5_readExpression 30 lw μ) (fun r μ' => Kx (fun k j => AEX y lw k j ∨ AX1 k j) BN μ μ' ∧ ∃ x c, Rch t (false, k, [], [], kn, 0) x ∧ stp t x = .inl c ∧ ((c = 0 ∧ r = 1 ∧ CT μ' t K x.2.1 ∧ CE0 μ' y lw (popR 1 x.2.2.1 x.2.2.2.1).1 (popR 1 x.2.2.1 x.2.2.2.1).2 x.2.2.2.2.1 x.2.2.2.2.2 ∧ Kx (fun k j => AEY y lw k j ∨ AX1 k j) BN μ μ') ∨ (¬ c = 0 ∧ r = 0 ∧ μ'.1 30 0 = nI c ∧ μ'.1 30 1 = nI (t x.2.1).2.1))) := by
  unfold f_X5_readExpression
  rw [Ok_vl, Ok_vl, Ok_bd]
  have K0 : Kx (fun k j => AEX y lw k j ∨ AX1 k j) BN μ (sI (sI μ 30 6 0) 30 7 0) := (Kx.rfl'.sI (by omega)).sI (by omega)
  have K0y : Kx (fun k j => AEY y lw k j ∨ AX1 k j) BN μ (sI (sI μ 30 6 0) 30 7 0) := (Kx.rfl'.sI (by omega)).sI (by omega)
  have f0 : ∀ k j, ¬ (k = 30 ∧ (j = 6 ∨ j = 7)) → (sI (sI μ 30 6 0) 30 7 0).1 k j = μ.1 k j := fun k j h => by rw [sI_i, if_neg (by omega), sI_i, if_neg (by omega)]
  have H0 : CE0 (sI (sI μ 30 6 0) 30 7 0) y lw [] [] kn 0 := by
    refine ⟨by rw [sI_i, if_neg (by omega), sI_i, if_pos ⟨rfl, rfl⟩]; rfl, trivial, by rw [sI_i, if_pos ⟨rfl, rfl⟩]; rfl, hc.of' (f0 _ _ (by unfold LWc at hl; omega)) (fun k j a b => f0 _ _ (by unfold LWc at hl; omega)), fun i hi hb p hp => absurd hp (List.not_mem_nil), by rw [f0 _ _ (by unfold LWc at hl; omega)]; exact h2⟩
  have T0 : CT (sI (sI μ 30 6 0) 30 7 0) t K k := hT.of (fun j hj => f0 _ _ (by omega)) (fun c a b => by funext j; exact f0 _ _ (by omega))
  have I0 : Iv kn (false, k, [], [], kn, 0) := ⟨rfl, hkn, rfl, Nat.zero_le _, fun s hs => absurd hs (List.not_mem_nil), fun s hs => absurd hs (List.not_mem_nil), rfl⟩
  generalize sI (sI μ 30 6 0) 30 7 0 = μ0 at K0 K0y H0 T0 ⊢
  have hkK := hT.2.1
  refine Ok.mono (Q := fun u (z : Int32 × Int32 × fMem) => Kx (fun k j => AEX y lw k j ∨ AX1 k j) BN μ z.2.2 ∧ ∃ x c, Rch t (false, k, [], [], kn, 0) x ∧ stp t x = .inl c ∧ Iv kn x ∧ ((c = 0 ∧ u = 1 ∧ CT z.2.2 t K x.2.1 ∧ (CEx z.2.2 y lw x ∧ Kx (fun k j => AEY y lw k j ∨ AX1 k j) BN μ z.2.2)) ∨ (¬ c = 0 ∧ u = 2 ∧ z.2.2.1 30 0 = nI c ∧ z.2.2.1 30 1 = nI (t x.2.1).2.1))) (Ok_lp (K - k) (fun i (z : Int32 × Int32 × fMem) => z.2.1 = nI i ∧ Kx (fun k j => AEX y lw k j ∨ AX1 k j) BN μ z.2.2 ∧ ∃ x, Rch t (false, k, [], [], kn, 0) x ∧ Iv kn x ∧ x.2.1 = k + i ∧ z.1 = (if x.1 = true then 1 else 0) ∧ CT z.2.2 t K x.2.1 ∧ (CEx z.2.2 y lw x ∧ Kx (fun k j => AEY y lw k j ∨ AX1 k j) BN μ z.2.2)) (by omega) ⟨rfl, K0, (false, k, [], [], kn, 0), Rch.rfl', I0, rfl, rfl, T0, H0, K0y⟩ ?_) ?_
  · rintro i ⟨v2, v3, μ1⟩ hi ⟨hx, K1, ⟨vd, k1, st, o, kn1, op⟩, R1, I1, hk1, hv2, T1, E1, Ky⟩
    dsimp only at hx K1 hk1 hv2 T1 E1 Ky ⊢
    subst hx
    unfold f_X5_readExpression_L14
    simp only [Nat.reduceAdd]
    have hr1 : μ1.2.2 30 3 = y := by rw [K1.1]; exact hr
    rw [if_neg (show ¬ 700 < nI i from nI_nlt (a := 700) (by omega) (by decide)), Ok_vl, T1.2.2.2.1]
    have hs := hTk k1
    -- after a step
    have after : ∀ (r : Int32) (μ2 : fMem), SO μ1 y lw t k1 (stp t (vd, k1, st, o, kn1, op)) r μ2 → ¬ stp t (vd, k1, st, o, kn1, op) = .inl 0 → Ok (if r = 0 then some (3, (v2, nI i, μ2)) else f_X5_readExpression_j80 30 lw (nI i) (nI (t k1).1) μ2) (fun t' s' => (t' = 0 ∧ i < K - k ∧ (s'.2.1 = nI (i + 1) ∧ Kx (fun k j => AEX y lw k j ∨ AX1 k j) BN μ s'.2.2 ∧ ∃ x, Rch t (false, k, [], [], kn, 0) x ∧ Iv kn x ∧ x.2.1 = k + (i + 1) ∧ s'.1 = (if x.1 = true then 1 else 0) ∧ CT s'.2.2 t K x.2.1 ∧ (CEx s'.2.2 y lw x ∧ Kx (fun k j => AEY y lw k j ∨ AX1 k j) BN μ s'.2.2))) ∨ ∃ u, t' = u + 1 ∧ (Kx (fun k j => AEX y lw k j ∨ AX1 k j) BN μ s'.2.2 ∧ ∃ x c, Rch t (false, k, [], [], kn, 0) x ∧ stp t x = .inl c ∧ Iv kn x ∧ ((c = 0 ∧ u = 1 ∧ CT s'.2.2 t K x.2.1 ∧ (CEx s'.2.2 y lw x ∧ Kx (fun k j => AEY y lw k j ∨ AX1 k j) BN μ s'.2.2)) ∨ (¬ c = 0 ∧ u = 2 ∧ s'.2.2.1 30 0 = nI c ∧ s'.2.2.1 30 1 = nI (t x.2.1).2.1)))) := by
      intro r μ2 hS hn
      obtain ⟨K2, hS⟩ := hS
      have K12 : Kx (fun k j => AEX y lw k j ∨ AX1 k j) BN μ μ2 := K1.trans (K2.wide (fun k j h => Or.inl h) (fun _ _ h => h))
      have T2 := CT.ex hl T1 K2
      cases e : stp t (vd, k1, st, o, kn1, op) with
      | inl c =>
        rw [e] at hS hn
        dsimp only at hS
        obtain ⟨rfl, e0, e1⟩ := hS
        rw [if_pos rfl, Ok_some]
        exact Or.inr ⟨2, rfl, K12, _, c, R1, e, I1, Or.inr ⟨fun z => hn (by rw [z]), rfl, e0, e1⟩⟩
      | inr x' =>
        rw [e] at hS
        dsimp only at hS
        obtain ⟨rfl, K2y, E2⟩ := hS
        obtain ⟨s1, s2, s3⟩ := stp_k e
        dsimp only at s1 s2 s3
        have hlt : k1 < K := Nat.lt_of_le_of_ne T1.2.1 (fun z => s3 (by rw [z]; exact hE))
        rw [if_neg (by decide)]
        have j113 : ∀ v : Int32, (v = if x'.1 = true then 1 else 0) → Ok (f_X5_readExpression_j113 30 lw (nI i) v μ2) (fun t' s' => (t' = 0 ∧ i < K - k ∧ (s'.2.1 = nI (i + 1) ∧ Kx (fun k j => AEX y lw k j ∨ AX1 k j) BN μ s'.2.2 ∧ ∃ x, Rch t (false, k, [], [], kn, 0) x ∧ Iv kn x ∧ x.2.1 = k + (i + 1) ∧ s'.1 = (if x.1 = true then 1 else 0) ∧ CT s'.2.2 t K x.2.1 ∧ (CEx s'.2.2 y lw x ∧ Kx (fun k j => AEY y lw k j ∨ AX1 k j) BN μ s'.2.2))) ∨ ∃ u, t' = u + 1 ∧ (Kx (fun k j => AEX y lw k j ∨ AX1 k j) BN μ s'.2.2 ∧ ∃ x c, Rch t (false, k, [], [], kn, 0) x ∧ stp t x = .inl c ∧ Iv kn x ∧ ((c = 0 ∧ u = 1 ∧ CT s'.2.2 t K x.2.1 ∧ (CEx s'.2.2 y lw x ∧ Kx (fun k j => AEY y lw k j ∨ AX1 k j) BN μ s'.2.2)) ∨ (¬ c = 0 ∧ u = 2 ∧ s'.2.2.1 30 0 = nI c ∧ s'.2.2.1 30 1 = nI (t x.2.1).2.1)))) := by
          intro v hv
          unfold f_X5_readExpression_j113
          simp only [Nat.reduceAdd]
          rw [Ok_bd]
          refine (next_spec hK T2 hlt).mono ?_
          rintro - μ3 ⟨K3, T3⟩
          rw [Ok_vl, Ok_some, nI_1]
          refine Or.inl ⟨rfl, by omega, rfl, K12.trans (K3.wide (fun k j h => Or.inr h) (fun _ _ h => h)), x', R1.trans (Rch.one e), I1.step (fun j => (hTk j).1) e, by omega, hv, by rw [s1]; exact T3, ?_, (Ky.trans (K2y.wide (fun k j h => Or.inl h) (fun _ _ h => h))).trans (K3.wide (fun k j h => Or.inr h) (fun _ _ h => h))⟩
          obtain ⟨b1, b2, b3, b4, b5, b6⟩ := E2
          refine ⟨by rw [K3.2.1 30 6 (by omega)]; exact b1, CW.of (fun j => K3.2.1 65 j (by omega)) b2, by rw [K3.2.1 30 7 (by omega)]; exact b3, b4.of' (K3.2.1 _ _ (by unfold LWc at hl; omega)) (fun k j a b => K3.2.1 _ _ (by unfold LWc at hl; omega)), ?_, by rw [K3.2.1 _ _ (by unfold LWc at hl; omega)]; exact b6⟩
          unfold Us at b5 ⊢
          rw [K3.2.1 _ _ (by unfold LWc at hl; omega)]
          exact b5
        unfold f_X5_readExpression_j80 f_X5_readExpression_j108 f_X5_readExpression_j112
        generalize (t k1).1 = s at s2 hs ⊢
        have v1 : (s = 21 ∨ s = 26 ∨ (13 ≤ s ∧ s ≤ 19)) → (1 : Int32) = if x'.1 = true then 1 else 0 := fun z => by rw [if_pos (s2.mpr z)]
        have v0 : ¬ (s = 21 ∨ s = 26 ∨ (13 ≤ s ∧ s ≤ 19)) → (0 : Int32) = if x'.1 = true then 1 else 0 := fun z => by rw [if_neg (fun q => z (s2.mp q))]
        have ne : ∀ x : Nat, x < 40 → ¬ s = x → ¬ nI s = nI x := fun x hx h z => h ((nI_eq (by omega) (by omega)).mp z)
        by_cases c21 : s = 21
        · rw [if_pos (show nI s = 21 by rw [c21]; rfl)]; exact j113 1 (v1 (Or.inl c21))
        rw [if_neg (show ¬ nI s = 21 from ne 21 (by decide) c21)]
        by_cases c26 : s = 26
        · rw [if_pos (show nI s = 26 by rw [c26]; rfl)]; exact j113 1 (v1 (Or.inr (Or.inl c26)))
        rw [if_neg (show ¬ nI s = 26 from ne 26 (by decide) c26)]
        rcases Nat.lt_or_ge s 13 with z | z
        · rw [if_pos (show nI s < 13 from nI_lt (b := 13) z (by decide))]; exact j113 0 (v0 (by omega))
        rw [if_neg (show ¬ nI s < 13 from nI_nlt (b := 13) z (by omega))]
        rcases Nat.lt_or_ge 19 s with z2 | z2
        · rw [if_pos (show 19 < nI s from nI_lt (a := 19) z2 (by omega))]; exact j113 0 (v0 (by omega))
        · rw [if_neg (show ¬ 19 < nI s from nI_nlt (a := 19) z2 (by decide))]; exact j113 1 (v1 (by omega))
    cases vd with
    | false =>
      rw [if_neg (show ¬ (false = true) by decide)] at hv2
      subst hv2
      rw [if_pos rfl]
      unfold f_X5_readExpression_j51
      rw [if_pos rfl, Ok_bd]
      refine (readValue_spec hl hr1 T1 hs.1 I1 E1 hs.2).mono ?_
      intro r μ2 hS
      refine after r μ2 hS ?_
      show ¬ stF t k1 st o kn1 op = _
      unfold stF
      repeat' split
      all_goals (intro z; cases z)
    | true =>
      rw [if_pos rfl] at hv2
      subst hv2
      rw [if_neg (by decide)]
      have j51 : ∀ {Q : Nat → Int32 × Int32 × fMem → Prop}, (∀ (r : Int32) (μ2 : fMem), SO μ1 y lw t k1 (stp t (true, k1, st, o, kn1, op)) r μ2 → ¬ stp t (true, k1, st, o, kn1, op) = .inl 0 → Ok (if r = 0 then some (3, ((1 : Int32), nI i, μ2)) else f_X5_readExpression_j80 30 lw (nI i) (nI (t k1).1) μ2) Q) → ¬ ((t k1).1 = 24 ∧ op = 0) → Ok (f_X5_readExpression_j51 30 lw 1 (nI i) (nI (t k1).1) μ1) Q := by
        intro Q after hne
        unfold f_X5_readExpression_j51
        rw [if_neg (by decide), Ok_bd]
        refine (readBehind_spec hl hr1 T1 hs.1 I1 E1 hne).mono ?_
        intro r μ2 hS
        refine after r μ2 hS ?_
        show ¬ stT t k1 st o kn1 op = _
        unfold stT
        rw [if_neg hne]
        repeat' split
        all_goals (intro z; cases z)
      have e7 : μ1.1 30 7 = nI op := E1.2.2.1
      have hop := I1.2.2.2.1
      dsimp only at hop
      rw [e7]
      by_cases c0 : op = 0
      · rw [if_pos (show nI op = 0 by rw [c0]; rfl)]
        by_cases c24 : (t k1).1 = 24
        · rw [if_pos (show nI (t k1).1 = 24 by rw [c24]; rfl), Ok_some]
          refine Or.inr ⟨1, rfl, K1, _, 0, R1, ?_, I1, Or.inl ⟨rfl, rfl, T1, E1, Ky⟩⟩
          show stT t k1 st o kn1 op = _
          unfold stT
          rw [if_pos ⟨c24, c0⟩]
        · rw [if_neg (show ¬ nI (t k1).1 = 24 from fun z => c24 ((nI_eq (b := 24) (by omega) (by decide)).mp z))]
          exact j51 after fun z => c24 z.1
      · rw [if_neg (nI_ne0 (by omega) (by omega))]
        exact j51 after fun z => c0 z.2
  · rintro u ⟨v2, v3, μ1⟩ ⟨K1, x, c, R1, e, I1, hO⟩
    dsimp only at K1 hO ⊢
    rcases hO with ⟨rfl, rfl, T1, E1, Ky⟩ | ⟨hc, rfl, e0, e1⟩
    · rw [if_neg (by decide), if_pos rfl]
      unfold f_X5_readExpression_j127
      rw [Ok_bd]
      have ls := len_st x.2.2.1
      have q1 := I1.1
      have q2 := I1.2.1
      have q3 := I1.2.2.1
      have q4 := I1.2.2.2.1
      refine (settle_spec hl (r := 1) ⟨by omega, by omega⟩ I1.2.2.2.2.1 (by omega) (by omega) E1).mono ?_
      rintro - μ2 ⟨H2, K2⟩
      rw [gd_t (Or.inr rfl), Ok_some]
      refine ⟨K1.trans (K2.wide (fun k j h => by omega) (fun _ _ h => h)), x, 0, R1, e, Or.inl ⟨rfl, rfl, T1.of (fun j hj => K2.2.1 31 j (by unfold LWc at hl; omega)) (fun c a b => by funext j; exact K2.2.1 c j (by unfold LWc at hl; omega)), H2, Ky.trans (K2.wide (fun k j h => by omega) (fun _ _ h => h))⟩⟩
    · rw [if_neg (by decide), if_neg (by decide), gd_t (Or.inl rfl), Ok_some]
      exact ⟨K1, x, c, R1, e, Or.inr ⟨hc, rfl, e0, e1⟩⟩
end CExp2
