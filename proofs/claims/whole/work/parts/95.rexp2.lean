/-! .. each of the reference's parts of E beside the machine -/
def Pst (b : Nat → Nat) (N : Nat) (t : TQ) (K base L : Nat) (x0 : ES) (st : List Nat) (op : Nat) (ν ν' : fMem) : Prop := Kx (ARx base) BN ν ν' ∧ (FO t x0 ν' ∨ ∃ k' pend om kn', Rch t x0 (true, k', pend ++ st, om, kn', op) ∧ (∀ p ∈ pend, L ≤ rk p) ∧ MR b N t K base ν' k' (om ++ pend.map kno) kn' op ∧ NX t L k' (pend ++ st))
def SpF (b : Nat → Nat) (N : Nat) (t : TQ) (K base : Nat) (F : RF) (L : Nat) (C : Nat → List Nat → Prop) (m : Nat) : Prop := ∀ ν k st o kn op, MR b N t K base ν k o kn op → Iv base (false, k, st, o, kn, op) → C k st → 64 - kn + (8 - op) + 2 ≤ m → Ok (F 181 ν) (fun _ ν' => Pst b N t K base L (false, k, st, o, kn, op) st op ν ν')
theorem opsN_app : ∀ (a c : List Nat), opsN (a ++ c) = opsN a + opsN c
  | [], c => by show opsN c = 0 + opsN c; omega
  | s :: a, c => by
    show (if s = 25 then 0 else 1) + opsN (a ++ c) = ((if s = 25 then 0 else 1) + opsN a) + opsN c
    rw [opsN_app a c]
    omega
theorem opsN_len : ∀ {a : List Nat}, (∀ p ∈ a, 1 ≤ rk p) → opsN a = a.length
  | [], _ => rfl
  | s :: a, h => by
    show (if s = 25 then 0 else 1) + opsN a = a.length + 1
    rw [if_neg (rk_le (h s (List.mem_cons_self))).2.1, opsN_len fun p q => h p (List.mem_cons_of_mem _ q)]
    omega
theorem cdm_op : ∀ s, s < 37 → 1 ≤ rk s → cdm (kno s) = (2, scd (nI s)) := by decide +kernel
theorem cdm_nm : ∀ s, s < 20 → 13 ≤ s → cdm (kno s) = (1, nI s - 13) := by decide +kernel
theorem scd_sgc : ∀ s, s < 37 → 27 ≤ s → nI (sgc s) = scd (nI s) := by decide +kernel
section RExp2
variable {b : Nat → Nat} {N : Nat} {t : TQ} {K base : Nat}
theorem FO.from {x0 x1 : ES} {ν : fMem} (R : Rch t x0 x1) (h : FO t x1 ν) : FO t x0 ν := by
  obtain ⟨x, c, r, e, h0, h1, m⟩ := h
  exact ⟨x, c, R.trans r, e, h0, h1, m⟩
theorem FO.ne {x0 : ES} {ν : fMem} (h : FO t x0 ν) : ¬ ν.1 181 28 = 0 := by
  obtain ⟨x, c, r, e, h0, h1, m⟩ := h
  exact m.ne h0 h1
theorem oper (T : Toks b N t K) (h36 : ∀ j, (t j).1 ≤ 36) {F : RF} {L' m : Nat} {C : Nat → List Nat → Prop} (hL : 1 ≤ L') (hF : SpF b N t K base F L' C m) (hN : NoF F) {α : Type} (w : α) {x0 x1 : ES} (R : Rch t x0 x1) {ν : fMem} {k kn op s : Nat} {o : List (Int32 × Int32)} {st : List Nat} (hk : x1.2.1 = k) (H : MR b N t K base ν k o kn op) (hs : 1 ≤ rk s) (hts : (t k).1 = s) (hst : stp t x1 = if kn < 64 then .inr (false, k + 1, s :: st, o, kn + 1, op) else .inl 2) (I1 : Iv base x1) (hC : C (k + 1) (s :: st)) (hm : kn < 64 → 64 - (kn + 1) + (8 - op) + 2 ≤ m) (hkn : kn ≤ 64) :
    Ok (bd (f_X11_knot 181 ν) fun _ μ1 => bd (f_X11_goOn 181 μ1) fun _ μ2 => bd (F 181 μ2) fun _ μ3 => bd (f_X11_puts 181 2 (scd (nI s)) μ3) fun _ μ4 => some (w, μ4)) (fun w' ν' => w' = w ∧ Kx (ARx base) BN ν ν' ∧ (FO t x0 ν' ∨ ∃ k' pend om kn', k < k' ∧ Rch t x0 (true, k', pend ++ s :: st, om, kn', op) ∧ (∀ p ∈ pend, L' ≤ rk p) ∧ MR b N t K base ν' k' (om ++ pend.map kno ++ [kno s]) kn' op ∧ NX t L' k' (pend ++ s :: st))) := by
  have r1 := rk_le hs
  by_cases c : kn < 64
  · rw [if_pos c] at hst
    have hlt : k < K := Nat.lt_of_le_of_ne H.2.1 (fun z => by
      have := T.2.2.2
      rw [← z, hts] at this
      rw [this] at hs
      exact absurd hs (by decide))
    obtain ⟨ν1, e1, H1, K1⟩ := knot_R H c
    rw [e1, bd_some, Ok_bd]
    refine (goOn_R T H1 hlt).mono ?_
    rintro - ν2 ⟨H2, K2⟩
    rw [Ok_bd]
    refine (hF ν2 (k + 1) (s :: st) o (kn + 1) op H2 (I1.step h36 hst) hC (hm c)).mono ?_
    rintro - ν3 ⟨K3, h3⟩
    rcases h3 with h3 | ⟨k', pend, om, kn', R3, p3, H3, n3⟩
    · rw [puts_f h3.ne, bd_some, Ok_some]
      exact ⟨rfl, (K1.trans K2).trans K3, Or.inl (h3.from (R.trans (Rch.one hst)))⟩
    · have R4 : Rch t x0 (true, k', pend ++ s :: st, om, kn', op) := (R.trans (Rch.one hst)).trans R3
      have I4 : Iv base (true, k', pend ++ s :: st, om, kn', op) := (I1.step h36 hst).rch h36 R3
      have q1 := I4.1
      have q2 := I4.2.1
      dsimp only at q1 q2
      rw [opsN_app, opsN_len (fun p q => by have := p3 p q; omega), show opsN (s :: st) = 1 + opsN st by show (if s = 25 then 0 else 1) + opsN st = _; rw [if_neg r1.2.1]] at q1
      obtain ⟨ν4, e4, H4, K4⟩ := puts_R H3 (by rw [List.length_append, List.length_map]; omega) (kno s)
      rw [cdm_op s (by omega) hs] at e4
      rw [e4, bd_some, Ok_some]
      exact ⟨rfl, ((K1.trans K2).trans K3).trans K4, Or.inr ⟨k', pend, om, kn', by have := R3.mono.1; dsimp only at this; omega, R4, p3, H4, n3⟩⟩
  · rw [if_neg c] at hst
    obtain ⟨ν1, e1, m1, K1⟩ := knot_full H (by omega)
    have hn := m1.ne (by decide) (by decide)
    rw [e1, bd_some, goOn_f hn, bd_some, Ok_bd]
    refine (hN ν1 hn).mono ?_
    rintro - ν2 rfl
    rw [puts_f hn, bd_some, Ok_some]
    exact ⟨rfl, K1, Or.inl ⟨x1, 2, R, hst, by decide, by decide, by rw [hk]; exact m1⟩⟩
theorem Sp_loop (T : Toks b N t K) (h36 : ∀ j, (t j).1 ≤ 36) {F : RF} {L m : Nat} {C C0 : Nat → List Nat → Prop} (hL : 1 ≤ L) (hL4 : ¬ L = 4 ∧ ¬ L = 3 ∧ L ≤ 6) (hF : SpF b N t K base F (L + 1) C m) (hN : NoF F) {B : fMem → Option (Nat × fMem)} (hB0 : ∀ ν : fMem, ¬ ν.1 181 28 = 0 → B ν = some (1, ν)) (hB1 : ∀ (ν : fMem) k, ν.1 181 28 = 0 → MT ν t k → ¬ rk (t k).1 = L → B ν = some (1, ν)) (hB2 : ∀ (ν : fMem) k, ν.1 181 28 = 0 → MT ν t k → rk (t k).1 = L → B ν = bd (f_X11_knot 181 ν) fun _ μ1 => bd (f_X11_goOn 181 μ1) fun _ μ2 => bd (F 181 μ2) fun _ μ3 => bd (f_X11_puts 181 2 (scd (nI (t k).1)) μ3) fun _ μ4 => some (0, μ4)) (hC0 : ∀ k st, C0 k st → C k st ∧ rkt st < L) (hC : ∀ k s st, rk s = L → C k (s :: st)) {ν : fMem} {k : Nat} {st : List Nat} {o : List (Int32 × Int32)} {kn op : Nat} (H : MR b N t K base ν k o kn op) (hI : Iv base (false, k, st, o, kn, op)) (hc : C0 k st) (hm : 64 - kn + (8 - op) + 2 ≤ m) :
    Ok (bd (F 181 ν) fun _ μ1 => bd (lpn (fun (q : fMem) => B q) fuel μ1) fun _ q => some ((), q)) (fun _ ν' => Pst b N t K base L (false, k, st, o, kn, op) st op ν ν') := by
  obtain ⟨hc1, hc2⟩ := hC0 k st hc
  rw [Ok_bd]
  refine (hF ν k st o kn op H hI hc1 hm).mono ?_
  rintro - ν1 ⟨K1, h1⟩
  rw [Ok_bd]
  refine Ok.mono (Q := fun _ (q : fMem) => Pst b N t K base L (false, k, st, o, kn, op) st op ν q) (Ok_lp (K - k) (fun i (q : fMem) => Kx (ARx base) BN ν q ∧ (FO t (false, k, st, o, kn, op) q ∨ ∃ k' pend om kn', k + i ≤ k' ∧ Rch t (false, k, st, o, kn, op) (true, k', pend ++ st, om, kn', op) ∧ (∀ p ∈ pend, L ≤ rk p) ∧ MR b N t K base q k' (om ++ pend.map kno) kn' op ∧ NX t (L + 1) k' (pend ++ st))) (by have := T.1; omega) ⟨K1, ?_⟩ ?_) ?_
  · rcases h1 with h1 | ⟨k', pend, om, kn', R, p, H', n⟩
    · exact Or.inl h1
    · exact Or.inr ⟨k', pend, om, kn', by have := R.mono.1; dsimp only at this; omega, R, fun x y => by have := p x y; omega, H', n⟩
  · rintro i ν2 hi ⟨K2, h2⟩
    rcases h2 with h2 | ⟨k', pend, om, kn', hki, R, p, H2, n⟩
    · rw [hB0 ν2 h2.ne, Ok_some]
      exact Or.inr ⟨0, rfl, K2, Or.inl h2⟩
    · by_cases c : rk (t k').1 = L
      · have hk' : k' < K := Nat.lt_of_le_of_ne H2.2.1 (fun z => by
          have := T.2.2.2
          rw [← z] at this
          rw [this] at c
          have : rk 22 = 0 := by decide
          omega)
        have I2 := hI.rch h36 R
        rw [hB2 ν2 k' H2.2.2.1 H2.2.2.2.1 c]
        have hkn := R.mono.2
        dsimp only at hkn
        have hk64 := I2.2.1
        dsimp only at hk64
        have hstp : stp t (true, k', pend ++ st, om, kn', op) = if kn' < 64 then .inr (false, k' + 1, (t k').1 :: st, om ++ pend.map kno, kn' + 1, op) else .inl 2 := by
          show stT t k' (pend ++ st) om kn' op = _
          have n24 : ¬ (t k').1 = 24 := fun z => by
            rw [z] at c
            have : rk 24 = 0 := by decide
            omega
          have n26 : ¬ (t k').1 = 26 := fun z => by
            rw [z] at c
            have : rk 26 = 0 := by decide
            omega
          have n12 : ¬ (t k').1 = 12 := fun z => by
            rw [z] at c
            have : rk 12 = 3 := by decide
            omega
          unfold stT
          rw [if_neg (fun z => n24 z.1), if_neg n26, if_neg (by omega), if_neg (fun z => by omega), c, if_neg hL4.1, pop_app p hc2]
        refine (oper (s := (t k').1) (k := k') T h36 (by omega) hF hN (0 : Nat) R rfl H2 (by omega) rfl hstp I2 (hC _ _ _ c) (fun _ => by omega) hk64).mono ?_
        rintro w ν3 ⟨rfl, K3, h3⟩
        refine Or.inl ⟨rfl, by omega, K2.trans K3, ?_⟩
        rcases h3 with h3 | ⟨k3, pend3, om3, kn3, hk3, R3, p3, H3, n3⟩
        · exact Or.inl h3
        · refine Or.inr ⟨k3, pend3 ++ [(t k').1], om3, kn3, by omega, by rw [List.append_assoc]; exact R3, fun x hx => ?_, by rw [List.map_append, ← List.append_assoc]; exact H3, by rw [List.append_assoc]; exact n3⟩
          rcases List.mem_append.mp hx with q | q
          · have := p3 x q; omega
          · rw [List.mem_singleton.mp q]; omega
      · rw [hB1 ν2 k' H2.2.2.1 H2.2.2.2.1 c, Ok_some]
        refine Or.inr ⟨0, rfl, K2, Or.inr ⟨k', pend, om, kn', R, p, H2, ?_⟩⟩
        rcases n with n | n | n
        · exact Or.inl (by omega)
        · exact Or.inr (Or.inl n)
        · exact Or.inr (Or.inr n)
  · rintro - ν2 h
    exact Ok_some.mpr h
theorem open_R {ν : fMem} {k kn op : Nat} {o : List (Int32 × Int32)} (H : MR b N t K base ν k o kn op) (op' : Nat) : MR b N t K base (sI ν 181 32 (nI op')) k o kn op' ∧ Kx (ARx base) BN ν (sI ν 181 32 (nI op')) := by
  obtain ⟨⟨h1, h1b, h1c⟩, h2, h3, h4, h5, h6, h7, h8⟩ := H
  have f : ∀ k j, ¬ (k = 181 ∧ j = 32) → (sI ν 181 32 (nI op')).1 k j = ν.1 k j := fun k j h => by rw [sI_i, if_neg h]
  refine ⟨⟨⟨by rw [f _ _ (by omega)]; exact h1, h1b, fun j hj => ⟨(h1c j hj).1, by rw [f _ _ (by omega)]; exact (h1c j hj).2⟩⟩, h2, by rw [f _ _ (by omega)]; exact h3, h4.of fun j a c => f _ _ (by omega), by rw [f _ _ (by omega)]; exact h5, by rw [sI_i, if_pos ⟨rfl, rfl⟩], by rw [f _ _ (by omega)]; exact h7, fun i hi => ?_⟩, Kx.rfl'.sI (by omega)⟩
  obtain ⟨p, p1, p2, p3⟩ := h8 i hi
  exact ⟨p, p1, by rw [f _ _ (by omega)]; exact p2, by rw [f _ _ (by omega)]; exact p3⟩
theorem Sp_primary (T : Toks b N t K) (h36 : ∀ j, (t j).1 ≤ 36) {E : RF} {n : Nat} (hE : SpF b N t K base E 1 (fun _ st => rkt st < 1) n) : SpF b N t K base (f_X11_primary_b E) 7 (fun k st => (t k).1 = 12 → 3 < rkt st) (n + 1) := by
  intro ν k st o kn op H hI hc hm
  obtain ⟨i1, i2, i3, i4, i5, i6, i7⟩ := id hI
  dsimp only at i1 i2 i3 i4 i5 i6 i7
  have h28 := H.2.2.1
  have hmt := H.2.2.2.1
  have hkK : ¬ (t k).1 = 22 → k < K := fun z => Nat.lt_of_le_of_ne H.2.1 (fun y => z (by rw [y]; exact T.2.2.2))
  have end_f : ∀ (ν' : fMem) (c : Nat), stp t (false, k, st, o, kn, op) = .inl c → ¬ c = 0 → c < 10 → MF ν' t c k → Kx (ARx base) BN ν ν' → Pst b N t K base 7 (false, k, st, o, kn, op) st op ν ν' := fun ν' c e h0 h1 hm K1 => ⟨K1, Or.inl ⟨_, c, Rch.rfl', e, h0, h1, hm⟩⟩
  have estp : stp t (false, k, st, o, kn, op) = stF t k st o kn op := rfl
  unfold f_X11_primary_b
  rw [if_pos h28, show (40 : Int32) = nI (sgc 25) from rfl, isSign_eq h28 hmt (by decide), bd_some]
  by_cases c25 : (t k).1 = 25
  · rw [if_pos c25, if_neg (by decide), H.2.2.2.2.2.1]
    by_cases c8 : op = 8
    · rw [if_pos (show nI op = 8 by rw [c8]; rfl)]
      obtain ⟨ν', e, m, K1⟩ := wrong_eq h28 hmt 2
      rw [show (2 : Int32) = nI 2 from rfl, e, bd_some]
      unfold f_X11_primary_j31
      rw [if_neg (m.ne (by decide) (by decide)), Ok_some]
      refine end_f ν' 2 ?_ (by decide) (by decide) m (K1.wide (fun k j h => by omega) (fun _ _ h => h))
      rw [estp]
      unfold stF
      rw [if_pos c25, if_neg (by omega)]
    · rw [if_neg (show ¬ nI op = 8 from fun z => c8 ((nI_eq (b := 8) (by omega) (by decide)).mp z))]
      have hst : stp t (false, k, st, o, kn, op) = .inr (false, k + 1, 25 :: st, o, kn, op + 1) := by
        rw [estp]
        unfold stF
        rw [if_pos c25, if_pos (by omega)]
      unfold f_X11_primary_j31
      rw [if_pos h28, Ok_vl, H.2.2.2.2.2.1, nI_1, Ok_bd]
      obtain ⟨H1, K1⟩ := open_R H (op + 1)
      refine (token_R T H1 (hkK (by omega))).mono ?_
      rintro - ν2 ⟨H2, K2⟩
      rw [Ok_bd]
      refine (hE ν2 (k + 1) (25 :: st) o kn (op + 1) H2 (hI.step h36 hst) (by show rk 25 < 1; decide) (by omega)).mono ?_
      rintro - ν3 ⟨K3, h3⟩
      have K03 := (K1.trans K2).trans K3
      unfold f_X11_primary_j78
      rcases h3 with h3 | ⟨k', pend, om, kn', R3, p3, H3, n3⟩
      · rw [if_neg h3.ne, if_neg h3.ne, Ok_some]
        exact ⟨K03, Or.inl (h3.from (Rch.one hst))⟩
      · have R4 := (Rch.one hst).trans R3
        have I4 := hI.rch h36 R4
        have m3 := H3.2.2.2.1
        rw [if_pos H3.2.2.1, show (41 : Int32) = nI (sgc 26) from rfl, isSign_eq H3.2.2.1 m3 (by decide), bd_some]
        have s3 : stp t (true, k', pend ++ 25 :: st, om, kn', op + 1) = stT t k' (pend ++ 25 :: st) om kn' (op + 1) := rfl
        by_cases c26 : (t k').1 = 26
        · rw [if_pos c26, if_neg (by decide), if_pos H3.2.2.1, Ok_vl, H3.2.2.2.2.2.1, nI_pred, Ok_bd]
          obtain ⟨H4, K4⟩ := open_R H3 op
          refine (token_R T H4 (Nat.lt_of_le_of_ne H3.2.1 (fun y => by have := T.2.2.2; rw [← y] at this; omega))).mono ?_
          rintro - ν5 ⟨H5, K5⟩
          rw [Ok_some]
          refine ⟨(K03.trans K4).trans K5, Or.inr ⟨k' + 1, [], om ++ pend.map kno, kn', R4.trans (Rch.one ?_), fun p hp => absurd hp (List.not_mem_nil), by rw [List.map_nil, List.append_nil]; exact H5, Or.inl (Nat.lt_of_le_of_lt (rk6 _) (by decide))⟩⟩
          rw [s3]
          unfold stT
          rw [if_neg (by omega), if_pos c26, if_pos (by omega), pop_app p3 (by show rk 25 < 1; decide)]
          rfl
        · obtain ⟨ν', e, m, K4⟩ := wrong_eq H3.2.2.1 m3 1
          rw [if_neg c26, if_pos rfl, show (1 : Int32) = nI 1 from rfl, e, bd_some, if_neg (m.ne (by decide) (by decide)), Ok_some]
          refine ⟨K03.trans (K4.wide (fun k j h => by omega) (fun _ _ h => h)), Or.inl ⟨_, 1, R4, ?_, by decide, by decide, m⟩⟩
          rw [s3]
          unfold stT
          rw [if_neg (by omega), if_neg c26]
          by_cases z : rk (t k').1 = 0 ∨ (t k').1 = 12
          · rw [if_pos z]
          · rw [if_neg z]
            rcases n3 with n3 | n3 | n3
            · omega
            · omega
            · rw [if_pos ⟨n3.1, n3.2 _⟩]
  · rw [if_neg c25, if_pos rfl]
    have s1 : stp t (false, k, st, o, kn, op) = if (t k).1 = 21 ∨ (13 ≤ (t k).1 ∧ (t k).1 ≤ 19) then (if kn < 64 then (if (t k).1 = 21 ∧ 9999 < (t k).2.2.1 then .inl 2 else .inr (true, k + 1, st, o ++ [(nI (t k).1, if (t k).1 = 21 then nI (t k).2.2.1 else 0)], kn + 1, op)) else .inl 2) else .inl 1 := by
      rw [estp]
      unfold stF
      rw [if_neg c25, if_neg (fun z => by have := hc z.1; omega)]
    -- after a fault
    have nof : ∀ (ν' : fMem) (v1 : Int32), ¬ ν'.1 181 28 = 0 → f_X11_primary_j162 E 181 v1 ν' = some ((), ν') := by
      intro ν' v1 hn
      unfold f_X11_primary_j162 f_X11_primary_j176 f_X11_primary_j194
      rw [knot_f hn, bd_some]
      by_cases z : v1 = 0
      · rw [if_pos z, if_pos z, puts_f hn, bd_some, goOn_f hn, bd_some]
      · rw [if_neg z, if_neg z, puts_f hn, bd_some, goOn_f hn, bd_some]
    -- a knot put
    have good : ∀ (p : Int32 × Int32) (G : fMem → Option (Unit × fMem)), (∀ μ : fMem, MT μ t k → G μ = bd (f_X11_puts 181 (cdm p).1 (cdm p).2 μ) fun _ μ21 => bd (f_X11_goOn 181 μ21) fun _ μ24 => some ((), μ24)) → (∀ μ : fMem, ¬ μ.1 181 28 = 0 → G μ = some ((), μ)) → (t k).1 = 21 ∨ (13 ≤ (t k).1 ∧ (t k).1 ≤ 19) → ¬ ((t k).1 = 21 ∧ 9999 < (t k).2.2.1) → p = (nI (t k).1, if (t k).1 = 21 then nI (t k).2.2.1 else 0) → Ok (bd (f_X11_knot 181 ν) fun _ μ16 => G μ16) (fun _ ν' => Pst b N t K base 7 (false, k, st, o, kn, op) st op ν ν') := by
      intro p G hG hGf hv h9 hp
      rw [if_pos hv] at s1
      by_cases ck : kn < 64
      · rw [if_pos ck, if_neg h9, ← hp] at s1
        obtain ⟨ν1, e1, H1, K1⟩ := knot_R H ck
        obtain ⟨ν2, e2, H2, K2⟩ := puts_R H1 (by omega) p
        rw [e1, bd_some, hG ν1 H1.2.2.2.1, e2, bd_some, Ok_bd]
        refine (goOn_R T H2 (hkK (by omega))).mono ?_
        rintro - ν3 ⟨H3, K3⟩
        rw [Ok_some]
        exact ⟨(K1.trans K2).trans K3, Or.inr ⟨k + 1, [], o ++ [p], kn + 1, Rch.one s1, fun p hp => absurd hp (List.not_mem_nil), by rw [List.map_nil, List.append_nil]; exact H3, Or.inl (Nat.lt_of_le_of_lt (rk6 _) (by decide))⟩⟩
      · rw [if_neg ck] at s1
        obtain ⟨ν1, e1, m1, K1⟩ := knot_full H (by omega)
        have hn := m1.ne (by decide) (by decide)
        rw [e1, bd_some, hGf ν1 hn, Ok_some]
        exact end_f ν1 2 s1 (by decide) (by decide) m1 K1
    by_cases c21 : (t k).1 = 21
    · obtain ⟨u, u1, u2, u3, u4⟩ := hmt.v2 c21
      rw [if_pos (hmt.k2.mpr c21)]
      unfold f_X11_primary_j114 f_X11_primary_j137
      rw [if_neg (by decide), u1]
      rcases Nat.lt_or_ge 9999 u with z | z
      · rw [if_neg (show ¬ nI u ≤ 9999 from nI_ge (a := 9999) z (by omega))]
        obtain ⟨ν', e, m, K1⟩ := wrong_eq h28 hmt 2
        rw [show (2 : Int32) = nI 2 from rfl, e, bd_some, nof ν' 1 (m.ne (by decide) (by decide)), Ok_some]
        refine end_f ν' 2 ?_ (by decide) (by decide) m (K1.wide (fun k j h => by omega) (fun _ _ h => h))
        rw [s1, if_pos (Or.inl c21)]
        by_cases ck : kn < 64
        · rw [if_pos ck, if_pos ⟨c21, by omega⟩]
        · rw [if_neg ck]
      · have huv : u = (t k).2.2.1 := by omega
        rw [if_pos (show nI u ≤ 9999 from nI_le (b := 9999) z (by decide)), if_neg (by decide)]
        have hcd : cdm (nI (t k).1, nI (t k).2.2.1) = (0, nI (t k).2.2.1) := by
          unfold cdm
          rw [if_pos (show nI (t k).1 = 21 by rw [c21]; rfl)]
        refine good (nI (t k).1, nI (t k).2.2.1) (fun μ16 => if (1 : Int32) = 0 then f_X11_primary_j176 E 181 1 181 1 μ16 else f_X11_primary_j176 E 181 1 181 0 μ16) (fun μ hμ => ?_) (fun μ hμ => ?_) (Or.inl c21) (by omega) (by rw [if_pos c21])
        · obtain ⟨w, w1, w2, w3, w4⟩ := hμ.v2 c21
          unfold f_X11_primary_j176 f_X11_primary_j194
          rw [if_neg (by decide), if_neg (by decide), w1, hcd, show w = (t k).2.2.1 by omega]
        · unfold f_X11_primary_j176 f_X11_primary_j194
          rw [if_neg (by decide), if_neg (by decide), puts_f hμ, bd_some, goOn_f hμ, bd_some]
    · rw [if_neg (fun z => c21 (hmt.k2.mp z))]
      unfold f_X11_primary_j114 f_X11_primary_j137 f_X11_primary_j157
      rw [if_pos rfl, if_pos rfl]
      have bad : ¬ (13 ≤ (t k).1 ∧ (t k).1 ≤ 19) → Ok (bd (f_X11_wrong 181 1 ν) fun _ μ30 => f_X11_primary_j162 E 181 0 μ30) (fun _ ν' => Pst b N t K base 7 (false, k, st, o, kn, op) st op ν ν') := by
        intro hb
        obtain ⟨ν', e, m, K1⟩ := wrong_eq h28 hmt 1
        rw [show (1 : Int32) = nI 1 from rfl, e, bd_some, nof ν' 0 (m.ne (by decide) (by decide)), Ok_some]
        refine end_f ν' 1 ?_ (by decide) (by decide) m (K1.wide (fun k j h => by omega) (fun _ _ h => h))
        rw [s1, if_neg (by omega)]
      by_cases c20 : (t k).1 < 20
      · rw [if_pos (hmt.k0.mpr c20), hmt.v0 c20]
        rcases Nat.lt_or_ge (t k).1 13 with z | z
        · rw [if_neg (show ¬ 13 ≤ nI (t k).1 from nI_ge (b := 13) z (by decide))]
          exact bad (by omega)
        · rw [if_pos (show 13 ≤ nI (t k).1 from nI_le (a := 13) z (by omega))]
          have hcd := cdm_nm (t k).1 c20 z
          refine good (nI (t k).1, 0) (fun μ16 => if (0 : Int32) = 0 then f_X11_primary_j176 E 181 0 181 1 μ16 else f_X11_primary_j176 E 181 0 181 0 μ16) (fun μ hμ => ?_) (fun μ hμ => ?_) (Or.inr ⟨z, by omega⟩) (by omega) (by rw [if_neg c21])
          · unfold f_X11_primary_j176 f_X11_primary_j194
            rw [if_pos rfl, if_pos rfl, hμ.v0 c20, hcd]
          · unfold f_X11_primary_j176 f_X11_primary_j194
            rw [if_pos rfl, if_pos rfl, puts_f hμ, bd_some, goOn_f hμ, bd_some]
      · rw [if_neg (fun z => c20 (hmt.k0.mp z))]
        exact bad (by omega)
end RExp2
