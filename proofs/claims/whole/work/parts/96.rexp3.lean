/-! .. and E as a whole -/
section RExp3
variable {b : Nat → Nat} {N : Nat} {t : TQ} {K base : Nat}
theorem rk_is : ∀ s, s < 37 → (rk s = 6 ↔ (s = 35 ∨ s = 36)) ∧ (rk s = 5 ↔ (s = 33 ∨ s = 34)) ∧ (rk s = 2 ↔ s = 11) ∧ (rk s = 1 ↔ s = 10) ∧ (rk s = 4 ↔ (27 ≤ s ∧ s ≤ 32)) ∧ (rk s = 3 ↔ s = 12) := by decide +kernel
abbrev Cp (t : TQ) (k : Nat) (st : List Nat) : Prop := (t k).1 = 12 → 3 < rkt st
theorem Sp_product (T : Toks b N t K) (h36 : ∀ j, (t j).1 ≤ 36) {F : RF} {m : Nat} (hF : SpF b N t K base F 7 (fun k st => (t k).1 = 12 → 3 < rkt st) m) (hN : NoF F) : SpF b N t K base (f_X11_product_b F) 6 (fun k st => rkt st < 6 ∧ ((t k).1 = 12 → 3 < rkt st)) m := by
  intro ν k st o kn op H hI hc hm
  unfold f_X11_product_b
  refine Sp_loop (B := fun q => f_X11_product_L4 F 181 q) T h36 (L := 6) (by decide) (by decide) hF hN (fun ν q => ?_) (fun ν k h0 hm c => ?_) (fun ν k h0 hm c => ?_) (C0 := fun k st => rkt st < 6 ∧ ((t k).1 = 12 → 3 < rkt st)) (fun k st h => ⟨h.2, h.1⟩) (fun k s st h _ => by show 3 < rk s; omega) H hI hc hm
  · unfold f_X11_product_L4
    rw [isSign_f q, bd_some, if_pos rfl, isSign_f q, bd_some, if_pos rfl]
  · have hr := (rk_is _ (Nat.lt_succ_of_le (h36 k))).1
    unfold f_X11_product_L4
    rw [show (42 : Int32) = nI (sgc 35) from rfl, isSign_eq h0 hm (by decide), bd_some, if_neg (show ¬ (t k).1 = 35 by omega), if_pos rfl, show (47 : Int32) = nI (sgc 36) from rfl, isSign_eq h0 hm (by decide), bd_some, if_neg (show ¬ (t k).1 = 36 by omega), if_pos rfl]
  · have hr := (rk_is _ (Nat.lt_succ_of_le (h36 k))).1.mp c
    have hv : ν.1 181 27 = scd (nI (t k).1) := by rw [hm.v3 (by omega)]; exact scd_sgc _ (by omega) (by omega)
    unfold f_X11_product_L4 f_X11_product_j22
    rw [show (42 : Int32) = nI (sgc 35) from rfl, isSign_eq h0 hm (by decide), bd_some]
    by_cases z : (t k).1 = 35
    · rw [if_pos z, if_neg (by decide), vl, hv]
    · rw [if_neg z, if_pos rfl, show (47 : Int32) = nI (sgc 36) from rfl, isSign_eq h0 hm (by decide), bd_some, if_pos (show (t k).1 = 36 by omega), if_neg (by decide), vl, hv]
theorem Sp_sum (T : Toks b N t K) (h36 : ∀ j, (t j).1 ≤ 36) {F : RF} {m : Nat} (hF : SpF b N t K base F 6 (fun k st => rkt st < 6 ∧ ((t k).1 = 12 → 3 < rkt st)) m) (hN : NoF F) : SpF b N t K base (f_X11_sum_b F) 5 (fun k st => rkt st < 5 ∧ ((t k).1 = 12 → 3 < rkt st)) m := by
  intro ν k st o kn op H hI hc hm
  unfold f_X11_sum_b
  refine Sp_loop (B := fun q => f_X11_sum_L4 F 181 q) T h36 (L := 5) (by decide) (by decide) hF hN (fun ν q => ?_) (fun ν k h0 hm c => ?_) (fun ν k h0 hm c => ?_) (C0 := fun k st => rkt st < 5 ∧ ((t k).1 = 12 → 3 < rkt st)) (fun k st h => ⟨⟨by omega, h.2⟩, h.1⟩) (fun k s st h => ⟨by show rk s < 6; omega, fun _ => by show 3 < rk s; omega⟩) H hI hc hm
  · unfold f_X11_sum_L4
    rw [isSign_f q, bd_some, if_pos rfl, isSign_f q, bd_some, if_pos rfl]
  · have hr := (rk_is _ (Nat.lt_succ_of_le (h36 k))).2.1
    unfold f_X11_sum_L4
    rw [show (43 : Int32) = nI (sgc 33) from rfl, isSign_eq h0 hm (by decide), bd_some, if_neg (show ¬ (t k).1 = 33 by omega), if_pos rfl, show (45 : Int32) = nI (sgc 34) from rfl, isSign_eq h0 hm (by decide), bd_some, if_neg (show ¬ (t k).1 = 34 by omega), if_pos rfl]
  · have hr := (rk_is _ (Nat.lt_succ_of_le (h36 k))).2.1.mp c
    have hv : ν.1 181 27 = scd (nI (t k).1) := by rw [hm.v3 (by omega)]; exact scd_sgc _ (by omega) (by omega)
    unfold f_X11_sum_L4 f_X11_sum_j22
    rw [show (43 : Int32) = nI (sgc 33) from rfl, isSign_eq h0 hm (by decide), bd_some]
    by_cases z : (t k).1 = 33
    · rw [if_pos z, if_neg (by decide), vl, hv]
    · rw [if_neg z, if_pos rfl, show (45 : Int32) = nI (sgc 34) from rfl, isSign_eq h0 hm (by decide), bd_some, if_pos (show (t k).1 = 34 by omega), if_neg (by decide), vl, hv]
theorem Sp_conj (T : Toks b N t K) (h36 : ∀ j, (t j).1 ≤ 36) {F : RF} {m : Nat} (hF : SpF b N t K base F 3 (fun _ st => rkt st ≤ 3) m) (hN : NoF F) : SpF b N t K base (f_X11_conjunction_b F) 2 (fun _ st => rkt st < 2) m := by
  intro ν k st o kn op H hI hc hm
  unfold f_X11_conjunction_b
  refine Sp_loop (B := fun q => f_X11_conjunction_L4 F 181 q) T h36 (L := 2) (by decide) (by decide) hF hN (fun ν q => ?_) (fun ν k h0 hm c => ?_) (fun ν k h0 hm c => ?_) (C0 := fun _ st => rkt st < 2) (fun k st h => ⟨by omega, h⟩) (fun k s st h => by show rk s ≤ 3; omega) H hI hc hm
  · unfold f_X11_conjunction_L4
    rw [isWord_f q, bd_some, if_pos rfl]
  · have hr := (rk_is _ (Nat.lt_succ_of_le (h36 k))).2.2.1
    unfold f_X11_conjunction_L4
    rw [show (11 : Int32) = nI 11 from rfl, isWord_eq h0 hm (by decide), bd_some, if_neg (show ¬ (t k).1 = 11 by omega), if_pos rfl]
  · have hr := (rk_is _ (Nat.lt_succ_of_le (h36 k))).2.2.1.mp c
    unfold f_X11_conjunction_L4
    rw [show (11 : Int32) = nI 11 from rfl, isWord_eq h0 hm (by decide), bd_some, if_pos hr, if_neg (by decide), hr]
    rfl
theorem Sp_expr (T : Toks b N t K) (h36 : ∀ j, (t j).1 ≤ 36) {F : RF} {m : Nat} (hF : SpF b N t K base F 2 (fun _ st => rkt st < 2) m) (hN : NoF F) : SpF b N t K base (f_X11_expression_b F) 1 (fun _ st => rkt st < 1) m := by
  intro ν k st o kn op H hI hc hm
  unfold f_X11_expression_b
  refine Sp_loop (B := fun q => f_X11_expression_L4 F 181 q) T h36 (L := 1) (by decide) (by decide) hF hN (fun ν q => ?_) (fun ν k h0 hm c => ?_) (fun ν k h0 hm c => ?_) (C0 := fun _ st => rkt st < 1) (fun k st h => ⟨by omega, h⟩) (fun k s st h => by show rk s < 2; omega) H hI hc hm
  · unfold f_X11_expression_L4
    rw [isWord_f q, bd_some, if_pos rfl]
  · have hr := (rk_is _ (Nat.lt_succ_of_le (h36 k))).2.2.2.1
    unfold f_X11_expression_L4
    rw [show (10 : Int32) = nI 10 from rfl, isWord_eq h0 hm (by decide), bd_some, if_neg (show ¬ (t k).1 = 10 by omega), if_pos rfl]
  · have hr := (rk_is _ (Nat.lt_succ_of_le (h36 k))).2.2.2.1.mp c
    unfold f_X11_expression_L4
    rw [show (10 : Int32) = nI 10 from rfl, isWord_eq h0 hm (by decide), bd_some, if_pos hr, if_neg (by decide), hr]
    rfl
theorem Sp_neg (T : Toks b N t K) (h36 : ∀ j, (t j).1 ≤ 36) {M S : RF} {n : Nat} (hS : SpF b N t K base S 5 (fun k st => rkt st < 5 ∧ ((t k).1 = 12 → 3 < rkt st)) (n + 1)) (hNS : NoF S) (hM : SpF b N t K base M 3 (fun _ st => rkt st ≤ 3) n) (hNM : NoF M) : SpF b N t K base (f_X11_negation_b M S) 3 (fun _ st => rkt st ≤ 3) (n + 1) := by
  intro ν k st o kn op H hI hc hm
  have h28 := H.2.2.1
  have hmt := H.2.2.2.1
  have hk64 := hI.2.1
  dsimp only at hk64
  unfold f_X11_negation_b
  rw [show (12 : Int32) = nI 12 from rfl, isWord_eq h28 hmt (by decide), bd_some]
  by_cases c12 : (t k).1 = 12
  · rw [if_pos c12, if_neg (by decide), show (260 : Int32) = scd (nI 12) from by decide]
    have hst : stp t (false, k, st, o, kn, op) = if kn < 64 then .inr (false, k + 1, 12 :: st, o, kn + 1, op) else .inl 2 := by
      show stF t k st o kn op = _
      unfold stF
      rw [if_neg (by omega), if_pos ⟨c12, hc⟩]
    refine (oper (s := 12) (k := k) T h36 (by decide) hM hNM () Rch.rfl' rfl H (by decide) c12 hst hI (by show rk 12 ≤ 3; decide) (fun _ => by omega) hk64).mono ?_
    rintro w ν3 ⟨-, K3, h3⟩
    refine ⟨K3, ?_⟩
    rcases h3 with h3 | ⟨k3, pend3, om3, kn3, hk3, R3, p3, H3, n3⟩
    · exact Or.inl h3
    · refine Or.inr ⟨k3, pend3 ++ [12], om3, kn3, by rw [List.append_assoc]; exact R3, fun x hx => ?_, by rw [List.map_append, ← List.append_assoc]; exact H3, by rw [List.append_assoc]; exact n3⟩
      rcases List.mem_append.mp hx with q | q
      · exact p3 x q
      · rw [List.mem_singleton.mp q]; decide
  · rw [if_neg c12, if_pos rfl, Ok_bd]
    refine (hS ν k st o kn op H hI ⟨by omega, fun z => absurd z c12⟩ hm).mono ?_
    rintro - ν1 ⟨K1, h1⟩
    rcases h1 with h1 | ⟨k', pend, om, kn', R, p, H1, n1⟩
    · rw [if_neg h1.ne, Ok_some]
      exact ⟨K1, Or.inl h1⟩
    · have m1 := H1.2.2.2.1
      have I1 := hI.rch h36 R
      have hkn := R.mono.2
      dsimp only at hkn
      have hk64' := I1.2.1
      dsimp only at hk64'
      obtain ⟨-, -, -, -, r4, r3⟩ := rk_is _ (Nat.lt_succ_of_le (h36 k'))
      rw [if_pos H1.2.2.1]
      by_cases c4 : 27 ≤ (t k').1 ∧ (t k').1 ≤ 32
      · have hv : ν1.1 181 27 = scd (nI (t k').1) := by rw [m1.v3 (by omega)]; exact scd_sgc _ (by have := h36 k'; omega) c4.1
        have hr4 := r4.mpr c4
        have hst : stp t (true, k', pend ++ st, om, kn', op) = if kn' < 64 then .inr (false, k' + 1, (t k').1 :: st, om ++ pend.map kno, kn' + 1, op) else .inl 2 := by
          show stT t k' (pend ++ st) om kn' op = _
          unfold stT
          rw [if_neg (by omega), if_neg (by omega), if_neg (by omega), pop_app p (by omega), if_neg (fun z => by have := z.2; dsimp only at this; omega), if_pos hr4, pop_app p (by omega)]
        have j87 : Ok (f_X11_negation_j87 M S 181 ν1) (fun _ ν' => Pst b N t K base 3 (false, k, st, o, kn, op) st op ν ν') := by
          unfold f_X11_negation_j87
          rw [Ok_vl, hv]
          refine (oper (s := (t k').1) (k := k') T h36 (by decide) hS hNS () R rfl H1 (by omega) rfl hst I1 ⟨by show rk (t k').1 < 5; omega, fun _ => by show 3 < rk (t k').1; omega⟩ (fun _ => by omega) hk64').mono ?_
          rintro w ν3 ⟨-, K3, h3⟩
          refine ⟨K1.trans K3, ?_⟩
          rcases h3 with h3 | ⟨k3, pend3, om3, kn3, hk3, R3, p3, H3, n3⟩
          · exact Or.inl h3
          · refine Or.inr ⟨k3, pend3 ++ [(t k').1], om3, kn3, by rw [List.append_assoc]; exact R3, fun x hx => ?_, by rw [List.map_append, ← List.append_assoc]; exact H3, ?_⟩
            · rcases List.mem_append.mp hx with q | q
              · have := p3 x q; omega
              · rw [List.mem_singleton.mp q]; omega
            · rw [List.append_assoc]
              have r3' := (rk_is _ (Nat.lt_succ_of_le (h36 k3))).2.2.2.2.2
              rcases n3 with n3 | n3 | n3
              · by_cases z4 : rk (t k3).1 = 4
                · refine Or.inr (Or.inr ⟨z4, fun o => ?_⟩)
                  rw [show pend3 ++ ([(t k').1] ++ st) = pend3 ++ (t k').1 :: st from rfl, pop_app p3 (by show rk (t k').1 < 5; omega)]
                  exact hr4
                · by_cases z3 : rk (t k3).1 = 3
                  · exact Or.inr (Or.inl (r3'.mp z3))
                  · exact Or.inl (by omega)
              · exact Or.inr (Or.inl n3)
              · exact Or.inr (Or.inr n3)
        rw [if_pos (m1.k3.mpr (by omega)), m1.v3 (by omega)]
        have cs : ∀ s, s < 37 → 27 ≤ s → s ≤ 32 → (nI (sgc s) = 60 ∨ nI (sgc s) = 62 ∨ nI (sgc s) = 61 ∨ 256 ≤ nI (sgc s)) := by decide +kernel
        have := cs _ (Nat.lt_succ_of_le (h36 k')) c4.1 c4.2
        by_cases z1 : nI (sgc (t k').1) = 60
        · rw [if_pos z1]; exact j87
        · by_cases z2 : nI (sgc (t k').1) = 62
          · rw [if_neg z1, if_pos z2]; exact j87
          · by_cases z3 : nI (sgc (t k').1) = 61
            · rw [if_neg z1, if_neg z2, if_pos z3]; exact j87
            · rw [if_neg z1, if_neg z2, if_neg z3, if_pos (by rcases this with w | w | w | w <;> first | exact absurd w z1 | exact absurd w z2 | exact absurd w z3 | exact w)]
              exact j87
      · have fin : Pst b N t K base 3 (false, k, st, o, kn, op) st op ν ν1 := by
          refine ⟨K1, Or.inr ⟨k', pend, om, kn', R, fun x hx => by have := p x hx; omega, H1, ?_⟩⟩
          rcases n1 with n1 | n1 | n1
          · by_cases z3 : rk (t k').1 = 3
            · exact Or.inr (Or.inl (r3.mp z3))
            · exact Or.inl (by have := fun z => c4 (r4.mp z); omega)
          · exact Or.inr (Or.inl n1)
          · exact absurd (r4.mp n1.1) c4
        by_cases z : 24 ≤ (t k').1 ∧ (t k').1 ≤ 36
        · have cs : ∀ s, s < 37 → 24 ≤ s → ¬ (27 ≤ s ∧ s ≤ 32) → ¬ nI (sgc s) = 60 ∧ ¬ nI (sgc s) = 62 ∧ ¬ nI (sgc s) = 61 ∧ ¬ 256 ≤ nI (sgc s) := by decide +kernel
          obtain ⟨w1, w2, w3, w4⟩ := cs _ (Nat.lt_succ_of_le (h36 k')) z.1 c4
          rw [if_pos (m1.k3.mpr z), m1.v3 z.1, if_neg w1, if_neg w2, if_neg w3, if_neg w4, Ok_some]
          exact fin
        · rw [if_neg (fun y => z (m1.k3.mp y)), Ok_some]
          exact fin
theorem Sp_EN (T : Toks b N t K) (h36 : ∀ j, (t j).1 ≤ 36) : ∀ n, SpF b N t K base (fr_EN n).1 1 (fun _ st => rkt st < 1) n ∧ SpF b N t K base (fr_EN n).2 3 (fun _ st => rkt st ≤ 3) n
  | 0 => ⟨fun ν k st o kn op _ _ _ h => by omega, fun ν k st o kn op _ _ _ h => by omega⟩
  | 1 => ⟨fun ν k st o kn op _ _ _ h => by omega, fun ν k st o kn op _ _ _ h => by omega⟩
  | n + 2 => by
    obtain ⟨hE, hM⟩ := Sp_EN T h36 (n + 1)
    have hS : SpF b N t K base (fr_sum (fr_EN (n + 1)).1) 5 (fun k st => rkt st < 5 ∧ ((t k).1 = 12 → 3 < rkt st)) (n + 1 + 1) := Sp_sum T h36 (Sp_product T h36 (Sp_primary T h36 hE) (NoF.primary _)) ((NoF.primary _).product)
    have hG : SpF b N t K base (fr_neg (fr_EN (n + 1)).1 (fr_EN (n + 1)).2) 3 (fun _ st => rkt st ≤ 3) (n + 1 + 1) := Sp_neg T h36 hS (NoF.fsum _) hM (NoF.en n).2
    have hNG : NoF (fr_neg (fr_EN (n + 1)).1 (fr_EN (n + 1)).2) := (NoF.fsum _).neg
    exact ⟨Sp_expr T h36 (Sp_conj T h36 hG hNG) hNG.conj, hG⟩
/-- the reference's E beside the machine -/
theorem expression_spec (T : Toks b N t K) (h36 : ∀ j, (t j).1 ≤ 36) {ν : fMem} {k kn : Nat} (H : MR b N t K kn ν k [] kn 0) (hkn : kn ≤ 64) : Ok (f_X11_expression 181 ν) (fun _ ν' => Kx (ARx kn) BN ν ν' ∧ (FO t (false, k, [], [], kn, 0) ν' ∨ ∃ k' pend om kn', Rch t (false, k, [], [], kn, 0) (true, k', pend, om, kn', 0) ∧ (∀ p ∈ pend, 1 ≤ rk p) ∧ MR b N t K kn ν' k' (om ++ pend.map kno) kn' 0 ∧ NX t 1 k' pend)) := by
  have I0 : Iv kn (false, k, [], [], kn, 0) := ⟨rfl, hkn, rfl, Nat.zero_le _, fun s hs => absurd hs (List.not_mem_nil), fun s hs => absurd hs (List.not_mem_nil), rfl⟩
  refine ((Sp_EN (base := kn) T h36 80).1 ν k [] [] kn 0 H I0 (by show 0 < 1; omega) (by omega)).mono ?_
  rintro - ν1 ⟨K1, h1⟩
  refine ⟨K1, ?_⟩
  rcases h1 with h1 | ⟨k', pend, om, kn', R, p, H1, n1⟩
  · exact Or.inl h1
  · rw [List.append_nil] at R n1
    exact Or.inr ⟨k', pend, om, kn', R, p, H1, n1⟩
end RExp3
