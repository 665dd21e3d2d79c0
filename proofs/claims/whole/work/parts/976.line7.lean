/-! a law as the reference reads it; both lines' beginnings -/
section Lines2
variable {b : Nat → Nat} {N : Nat} {t : TQ} {K k : Nat} {μ ν : fMem} {y : Nat} {Q : Unit → fMem → Prop}
abbrev AWx (kn a j : Nat) : Prop := AGx a j ∨ (a = 181 ∧ (j = 21 ∨ j = 32 ∨ j = 33)) ∨ (a = 183 ∧ j = 13) ∨ ((a = 199 ∨ a = 200) ∧ 64 + kn ≤ j) ∨ ((a = 197 ∨ a = 198) ∧ 3 ≤ j)
theorem fr6' : f_X11_fresher 181 6 ν = some (ν.1 183 13, ν) := rfl
theorem line_law (T : Toks b N t K) (h36 : ∀ j, (t j).1 ≤ 36) (h : RS b N t K ν none k) (h22 : ¬ (t k).1 = 22) {kn : Nat} (hkn : kn ≤ 64) (h13 : ν.1 183 13 = nI kn) (h33 : ν.1 181 33 = nI kn) (h32 : ν.1 181 32 = 0) (hG : ∀ (ν' : fMem) (F : Option (Nat × Nat)) (k' : Nat), RS b N t K ν' F k' → Kx (AWx kn) BN ν ν' → ((¬ (7 ≤ (t (k + 1)).1 ∧ (t (k + 1)).1 ≤ 9) ∧ F = some (1, k + 1)) ∨ (∃ l, l < 3 ∧ (t (k + 1)).1 = 7 + l ∧ ((Tb (ν.1 181 21) (16 + l) ∧ F = some (3, k + 1)) ∨ (¬ Tb (ν.1 181 21) (16 + l) ∧ ((∃ x c, Rch t (false, k + 2, [], [], kn, 0) x ∧ stp t x = .inl c ∧ ¬ c = 0 ∧ F = some (c, x.2.1)) ∨ (F = none ∧ Kx (fun a j => AGx a j ∨ (a = 181 ∧ (j = 21 ∨ j = 32 ∨ j = 33)) ∨ (a = 183 ∧ j = 13) ∨ ((a = 199 ∨ a = 200) ∧ 64 + kn ≤ j) ∨ ((a = 197 ∨ a = 198) ∧ j = 3 + l)) BN ν ν' ∧ ν'.1 181 21 = ((ν.1 181 21 ||| shl 1 (nI 6)) ||| shl 1 (nI (16 + l))) ∧ ∃ pend om kn', Rch t (false, k + 2, [], [], kn, 0) (true, k', pend, om, kn', 0) ∧ (∀ p ∈ pend, 1 ≤ rk p) ∧ MR b N t K kn ν' k' (om ++ pend.map kno) kn' 0 ∧ NX t 1 k' pend ∧ ν'.1 197 (3 + l) = nI kn ∧ ν'.1 198 (3 + l) = ν'.1 183 13)))))) → Ok (f_X11_line_j415 181 ν') Q) : Ok (f_X11_line_j65 181 (nI 6) ν) Q := by
  unfold f_X11_line_j65
  rw [if_pos h.2.2.1, Ok_vl, Ok_bd]
  refine (word_S T h h22 (w := 6)).mono ?_
  rintro - ν1 ⟨h1, K1, e21⟩
  rw [if_neg (by decide), if_neg (by decide), if_neg (by decide), if_neg (by decide), if_neg (by decide), if_neg (by decide), Ok_bd]
  have W1 : Kx (AWx kn) BN ν ν1 := K1.wide (fun a j h => by omega) (fun _ _ h => h)
  have hm := h1.2.2.2
  unfold f_X11_lawLine f_X11_lawLine_j25
  -- a fault, then nothing more
  have nof : ∀ (ν2 : fMem) (x : Nat × Nat) (v : Int32), RS b N t K ν2 (some x) 0 → f_X11_lawLine_j65 181 v ν2 = some ((), ν2) := fun ν2 x v h2 => if_neg (RS.ne h2)
  have bad : ¬ (7 ≤ (t (k + 1)).1 ∧ (t (k + 1)).1 ≤ 9) → Ok (bd (f_X11_wrong 181 1 ν1) fun _ μ28 => f_X11_lawLine_j30 181 μ28) (fun _ μ141 => Ok (f_X11_line_j415 181 μ141) Q) := by
    intro hb
    obtain ⟨ν2, e, h2, K2⟩ := wrong_S h1 (c := 1) (by decide)
    rw [show (1 : Int32) = nI 1 from rfl, e, bd_some]
    unfold f_X11_lawLine_j30
    rw [Ok_vl, if_neg (RS.ne (h2 0)), nof ν2 _ _ (h2 0), Ok_some]
    exact hG ν2 _ 0 (h2 0) (W1.trans (K2.wide (fun a j h => by omega) (fun _ _ h => h))) (Or.inl ⟨hb, rfl⟩)
  by_cases c20 : (t (k + 1)).1 < 20
  · rw [if_pos (hm.k0.mpr c20), hm.v0 c20]
    rcases Nat.lt_or_ge (t (k + 1)).1 7 with z | z
    · rw [if_pos (show nI (t (k + 1)).1 < 7 from nI_lt (b := 7) z (by decide))]
      exact bad (by omega)
    · rw [if_neg (show ¬ nI (t (k + 1)).1 < 7 from nI_nlt (b := 7) z (by omega))]
      rcases Nat.lt_or_ge 9 (t (k + 1)).1 with z2 | z2
      · rw [if_neg (show ¬ nI (t (k + 1)).1 ≤ 9 from nI_ge (a := 9) z2 (by omega))]
        exact bad (by omega)
      · obtain ⟨l, hl⟩ : ∃ l, (t (k + 1)).1 = 7 + l := ⟨(t (k + 1)).1 - 7, by omega⟩
        have hl3 : l < 3 := by omega
        rw [if_pos (show nI (t (k + 1)).1 ≤ 9 from nI_le (b := 9) z2 (by decide))]
        unfold f_X11_lawLine_j30
        rw [Ok_vl, hm.v0 c20, show nI (t (k + 1)).1 - 7 = nI l by rw [hl, Nat.add_comm]; exact nI_sub l 7, if_pos h1.2.2.1, show (16 : Int32) + nI l = nI (16 + l) from nI_add 16 l]
        have hT : Tb (ν1.1 181 21) (16 + l) ↔ Tb (ν.1 181 21) (16 + l) := by
          rw [e21, Tb_or (by omega) (by decide)]
          constructor
          · rintro (q | q)
            · omega
            · exact q
          · exact Or.inr
        by_cases ct : Tb (ν.1 181 21) (16 + l)
        · rw [if_pos (show shr (ν1.1 181 21) (nI (16 + l)) &&& 1 = 1 from hT.mpr ct)]
          obtain ⟨ν2, e, h2, K2⟩ := wrong_S h1 (c := 3) (by decide)
          rw [show (3 : Int32) = nI 3 from rfl, e, bd_some, nof ν2 _ _ (h2 0), Ok_some]
          exact hG ν2 _ 0 (h2 0) (W1.trans (K2.wide (fun a j h => by omega) (fun _ _ h => h))) (Or.inr ⟨l, hl3, hl, Or.inl ⟨ct, rfl⟩⟩)
        · rw [if_neg (show ¬ shr (ν1.1 181 21) (nI (16 + l)) &&& 1 = 1 from fun q => ct (hT.mp q))]
          unfold f_X11_lawLine_j65
          simp only [Nat.reduceAdd]
          rw [if_pos h1.2.2.1, Ok_vl, show (16 : Int32) + nI l = nI (16 + l) from nI_add 16 l, Ok_bd]
          refine (word_S T h1 (by omega) (w := 16 + l)).mono ?_
          rintro - ν2 ⟨h2, K2, e2⟩
          have g13 : ν2.1 183 13 = nI kn := by rw [K2.2.1 _ _ (by omega), K1.2.1 _ _ (by omega)]; exact h13
          have hix : ixo (nI (3 + l)) 6 := ixN (by omega) (by decide)
          have hcl : (nI (3 + l)).toNatClampNeg = 3 + l := nI_clamp (by omega)
          rw [fr6 g13, bd_some, show (3 : Int32) + nI l = nI (3 + l) from nI_add 3 l]
          simp only [gd_t hix, hcl]
          rw [Ok_vl, Ok_bd]
          have K3 : Kx (fun a j => a = 197 ∧ j = 3 + l) BN ν2 (sI ν2 197 (3 + l) (nI kn)) := Kx.rfl'.sI ⟨rfl, rfl⟩
          have g197 : (sI ν2 197 (3 + l) (nI kn)).1 197 (3 + l) = nI kn := by rw [sI_i, if_pos ⟨rfl, rfl⟩]
          have h3 := h2.of K3 (fun a j z => by omega)
          generalize sI ν2 197 (3 + l) (nI kn) = ν3 at K3 g197 h3 ⊢
          have K03 : Kx (fun a j => AGx a j ∨ (a = 181 ∧ (j = 21 ∨ j = 32 ∨ j = 33)) ∨ (a = 183 ∧ j = 13) ∨ ((a = 199 ∨ a = 200) ∧ 64 + kn ≤ j) ∨ ((a = 197 ∨ a = 198) ∧ j = 3 + l)) BN ν ν3 := ((K1.wide (fun a j h => by omega) (fun _ _ h => h)).trans (K2.wide (fun a j h => by omega) (fun _ _ h => h))).trans (K3.wide (fun a j h => by omega) (fun _ _ h => h))
          have f3 : ∀ a j, ¬ AGx a j → ¬ (a = 181 ∧ j = 21) → ¬ (a = 197 ∧ j = 3 + l) → ν3.1 a j = ν.1 a j := fun a j w1 w2 w3 => by rw [K3.2.1 a j w3, K2.2.1 a j (by omega), K1.2.1 a j (by omega)]
          have M3 : MR b N t K kn ν3 (k + 2) [] kn 0 := ⟨h3.1, h3.2.1, h3.2.2.1, h3.2.2.2, by rw [f3 _ _ (by omega) (by omega) (by omega)]; exact h33, by rw [f3 _ _ (by omega) (by omega) (by omega)]; exact h32, by rw [f3 _ _ (by omega) (by omega) (by omega)]; exact h13, fun i hi => absurd hi (Nat.not_lt_zero i)⟩
          have e3 : ν3.1 181 21 = ((ν.1 181 21 ||| shl 1 (nI 6)) ||| shl 1 (nI (16 + l))) := by rw [K3.2.1 _ _ (by omega), e2, e21]
          refine (expression_spec T h36 M3 hkn).mono ?_
          rintro - ν4 ⟨K4, h4⟩
          rw [fr6', bd_some, Ok_vl, Ok_some]
          have K5 : Kx (fun a j => a = 198 ∧ j = 3 + l) BN ν4 (sI ν4 198 (3 + l) (ν4.1 183 13)) := Kx.rfl'.sI ⟨rfl, rfl⟩
          have g198 : (sI ν4 198 (3 + l) (ν4.1 183 13)).1 198 (3 + l) = ν4.1 183 13 := by rw [sI_i, if_pos ⟨rfl, rfl⟩]
          generalize sI ν4 198 (3 + l) (ν4.1 183 13) = ν5 at K5 g198 ⊢
          have K05 : Kx (fun a j => AGx a j ∨ (a = 181 ∧ (j = 21 ∨ j = 32 ∨ j = 33)) ∨ (a = 183 ∧ j = 13) ∨ ((a = 199 ∨ a = 200) ∧ 64 + kn ≤ j) ∨ ((a = 197 ∨ a = 198) ∧ j = 3 + l)) BN ν ν5 := (K03.trans (K4.wide (fun a j h => by omega) (fun _ _ h => h))).trans (K5.wide (fun a j h => by omega) (fun _ _ h => h))
          rcases h4 with ⟨x, c, R, e, hc0, hc1, hm4⟩ | ⟨k', pend, om, kn', R, p, M4, n4⟩
          · refine hG ν5 (some (c, x.2.1)) 0 ?_ (K05.wide (fun a j h => by omega) (fun _ _ h => h)) (Or.inr ⟨l, hl3, hl, Or.inr ⟨ct, Or.inl ⟨x, c, R, e, hc0, rfl⟩⟩⟩)
            exact ⟨hc0, hc1, by rw [K5.2.1 _ _ (by omega)]; exact hm4.1, by rw [K5.2.1 _ _ (by omega)]; exact hm4.2⟩
          · have M5 : MR b N t K kn ν5 k' (om ++ pend.map kno) kn' 0 := M4.of K5 (fun a j h => by omega)
            refine hG ν5 none k' ⟨M5.1, M5.2.1, M5.2.2.1, M5.2.2.2.1⟩ (K05.wide (fun a j h => by omega) (fun _ _ h => h)) (Or.inr ⟨l, hl3, hl, Or.inr ⟨ct, Or.inr ⟨rfl, K05, ?_, pend, om, kn', R, p, M5, n4, ?_, ?_⟩⟩⟩)
            · rw [K5.2.1 _ _ (by omega), K4.2.1 _ _ (by omega)]; exact e3
            · rw [K5.2.1 _ _ (by omega), K4.2.1 _ _ (by omega)]; exact g197
            · rw [g198, K5.2.1 _ _ (by omega)]
  · rw [if_neg (fun z => c20 (hm.k0.mp z))]
    exact bad (by omega)
/-- the reference's line begins -/
theorem isFull_eq {c : Nat → Nat} (hc : ∀ w, w < 5 → ν.1 183 (7 + w) = nI (c w)) (hb : c 0 ≤ 6 ∧ c 1 ≤ 9 ∧ c 2 ≤ 8 ∧ c 3 ≤ 6 ∧ c 4 ≤ 9) {w : Nat} (hw : w < 7) : ∃ x, f_X11_isFull 181 (nI w) ν = some (x, ν) ∧ (x = 0 ↔ ¬ (w < 5 ∧ (mostT.getD w 0) ≤ nI (c w))) := by
  have f0 := fr0 (hc 0 (by decide))
  have f1 := fr1 (hc 1 (by decide))
  have f2 := fr2 (hc 2 (by decide))
  have f3 := fr3 (hc 3 (by decide))
  have f4 := fr4 (hc 4 (by decide))
  have key : ∀ (m n : Nat), n ≤ m → m < 100 → (nI n = nI m ↔ nI m ≤ nI n) := by
    intro m n h1 h2
    rw [nI_eq (by omega) (by omega), nI_leI (by omega) (by omega)]
    omega
  unfold f_X11_isFull f_X11_isFull_j14 f_X11_isFull_j29 f_X11_isFull_j44 f_X11_isFull_j59
  rcases (show w = 0 ∨ w = 1 ∨ w = 2 ∨ w = 3 ∨ w = 4 ∨ w = 5 ∨ w = 6 by omega) with rfl | rfl | rfl | rfl | rfl | rfl | rfl
  · rw [if_pos (by decide), f0, bd_some]
    by_cases z : nI (c 0) = 6
    · exact ⟨1, by rw [if_pos z, gd_t (Or.inr rfl)], ⟨fun q => absurd q (by decide), fun q => absurd ⟨by decide, (key 6 (c 0) hb.1 (by decide)).mp z⟩ q⟩⟩
    · refine ⟨0, ?_, ⟨fun _ q => z ((key 6 (c 0) hb.1 (by decide)).mpr q.2), fun _ => rfl⟩⟩
      rw [if_neg z, if_neg (by decide), if_neg (by decide), if_neg (by decide), if_neg (by decide), gd_t (Or.inl rfl)]
  · rw [if_neg (by decide), if_pos (by decide), f1, bd_some]
    by_cases z : nI (c 1) = 9
    · exact ⟨1, by rw [if_pos z, gd_t (Or.inr rfl)], ⟨fun q => absurd q (by decide), fun q => absurd ⟨by decide, (key 9 (c 1) hb.2.1 (by decide)).mp z⟩ q⟩⟩
    · refine ⟨0, ?_, ⟨fun _ q => z ((key 9 (c 1) hb.2.1 (by decide)).mpr q.2), fun _ => rfl⟩⟩
      rw [if_neg z, if_neg (by decide), if_neg (by decide), if_neg (by decide), gd_t (Or.inl rfl)]
  · rw [if_neg (by decide), if_neg (by decide), if_pos (by decide), f2, bd_some]
    by_cases z : nI (c 2) = 8
    · exact ⟨1, by rw [if_pos z, gd_t (Or.inr rfl)], ⟨fun q => absurd q (by decide), fun q => absurd ⟨by decide, (key 8 (c 2) hb.2.2.1 (by decide)).mp z⟩ q⟩⟩
    · refine ⟨0, ?_, ⟨fun _ q => z ((key 8 (c 2) hb.2.2.1 (by decide)).mpr q.2), fun _ => rfl⟩⟩
      rw [if_neg z, if_neg (by decide), if_neg (by decide), gd_t (Or.inl rfl)]
  · rw [if_neg (by decide), if_neg (by decide), if_neg (by decide), if_pos (by decide), f3, bd_some]
    by_cases z : nI (c 3) = 6
    · exact ⟨1, by rw [if_pos z, gd_t (Or.inr rfl)], ⟨fun q => absurd q (by decide), fun q => absurd ⟨by decide, (key 6 (c 3) hb.2.2.2.1 (by decide)).mp z⟩ q⟩⟩
    · refine ⟨0, ?_, ⟨fun _ q => z ((key 6 (c 3) hb.2.2.2.1 (by decide)).mpr q.2), fun _ => rfl⟩⟩
      rw [if_neg z, if_neg (by decide), gd_t (Or.inl rfl)]
  · rw [if_neg (by decide), if_neg (by decide), if_neg (by decide), if_neg (by decide), if_pos (by decide), f4, bd_some]
    by_cases z : nI (c 4) = 9
    · exact ⟨1, by rw [if_pos z, gd_t (Or.inr rfl)], ⟨fun q => absurd q (by decide), fun q => absurd ⟨by decide, (key 9 (c 4) hb.2.2.2.2 (by decide)).mp z⟩ q⟩⟩
    · refine ⟨0, ?_, ⟨fun _ q => z ((key 9 (c 4) hb.2.2.2.2 (by decide)).mpr q.2), fun _ => rfl⟩⟩
      rw [if_neg z, gd_t (Or.inl rfl)]
  · refine ⟨0, ?_, ⟨fun _ q => absurd q.1 (by decide), fun _ => rfl⟩⟩
    rw [if_neg (by decide), if_neg (by decide), if_neg (by decide), if_neg (by decide), if_neg (by decide), gd_t (Or.inl rfl)]
  · refine ⟨0, ?_, ⟨fun _ q => absurd q.1 (by decide), fun _ => rfl⟩⟩
    rw [if_neg (by decide), if_neg (by decide), if_neg (by decide), if_neg (by decide), if_neg (by decide), gd_t (Or.inl rfl)]
theorem line_first {c : Nat → Nat} (hc : ∀ w, w < 5 → ν.1 183 (7 + w) = nI (c w)) (hb : c 0 ≤ 6 ∧ c 1 ≤ 9 ∧ c 2 ≤ 8 ∧ c 3 ≤ 6 ∧ c 4 ≤ 9) (h36 : (t k).1 ≤ 36) (h : RS b N t K ν none k) : (∃ x ν', f_X11_line 181 ν = some ((), ν') ∧ (∀ k', RS b N t K ν' (some x) k') ∧ Kx AGx BN ν ν' ∧ ((¬ (t k).1 ≤ 6 ∧ x = (1, k)) ∨ ((t k).1 < 5 ∧ (mostT.getD (t k).1 0) ≤ nI (c (t k).1) ∧ x = (2, k)) ∨ ((t k).1 = 5 ∧ Tb (ν.1 181 21) 5 ∧ x = (3, k)))) ∨ (f_X11_line 181 ν = f_X11_line_j65 181 (nI (t k).1) ν ∧ (t k).1 ≤ 6 ∧ ¬ ((t k).1 < 5 ∧ (mostT.getD (t k).1 0) ≤ nI (c (t k).1)) ∧ ¬ ((t k).1 = 5 ∧ Tb (ν.1 181 21) 5)) := by
  have hm := h.2.2.2
  have bad : ¬ (t k).1 ≤ 6 → ∃ ν', f_X11_line_j16 181 ν = some ((), ν') ∧ (∀ k', RS b N t K ν' (some (1, k)) k') ∧ Kx AGx BN ν ν' := by
    intro _
    obtain ⟨ν', e, h1, K1⟩ := wrong_S h (c := 1) (by decide)
    refine ⟨ν', ?_, h1, K1⟩
    unfold f_X11_line_j16
    rw [show (1 : Int32) = nI 1 from rfl, e, bd_some]
  have no65 : ∀ (ν2 : fMem) (x : Nat × Nat) (v : Int32), RS b N t K ν2 (some x) 0 → f_X11_line_j65 181 v ν2 = some ((), ν2) := fun ν2 x v h2 => if_neg (RS.ne h2)
  unfold f_X11_line
  by_cases c20 : (t k).1 < 20
  · rw [if_pos (hm.k0.mpr c20), hm.v0 c20]
    rcases Nat.lt_or_ge 6 (t k).1 with z | z
    · obtain ⟨ν', e, h1, K1⟩ := bad (by omega)
      rw [if_neg (show ¬ nI (t k).1 ≤ 6 from nI_ge (a := 6) z (by omega))]
      exact Or.inl ⟨_, ν', e, h1, K1, Or.inl ⟨by omega, rfl⟩⟩
    · obtain ⟨x, ex, hx⟩ := isFull_eq hc hb (w := (t k).1) (by omega)
      rw [if_pos (show nI (t k).1 ≤ 6 from nI_le (b := 6) z (by decide)), vl, ex, bd_some]
      by_cases cf : (t k).1 < 5 ∧ (mostT.getD (t k).1 0) ≤ nI (c (t k).1)
      · obtain ⟨ν', e, h1, K1⟩ := wrong_S h (c := 2) (by decide)
        rw [if_neg (fun q => hx.mp q cf), show (2 : Int32) = nI 2 from rfl, e, bd_some]
        exact Or.inl ⟨_, ν', no65 ν' _ _ (h1 0), h1, K1, Or.inr (Or.inl ⟨cf.1, cf.2, rfl⟩)⟩
      · rw [if_pos (hx.mpr cf)]
        by_cases c5 : (t k).1 = 5
        · rw [if_pos (show nI (t k).1 = 5 by rw [c5]; rfl)]
          by_cases ct : Tb (ν.1 181 21) 5
          · obtain ⟨ν', e, h1, K1⟩ := wrong_S h (c := 3) (by decide)
            rw [if_pos (show shr (ν.1 181 21) (nI (t k).1) &&& 1 = 1 by rw [c5]; exact ct), show (3 : Int32) = nI 3 from rfl, e, bd_some]
            exact Or.inl ⟨_, ν', no65 ν' _ _ (h1 0), h1, K1, Or.inr (Or.inr ⟨c5, ct, rfl⟩)⟩
          · rw [if_neg (show ¬ shr (ν.1 181 21) (nI (t k).1) &&& 1 = 1 by rw [c5]; exact ct)]
            exact Or.inr ⟨rfl, z, cf, fun q => ct q.2⟩
        · rw [if_neg (show ¬ nI (t k).1 = 5 from fun q => c5 ((nI_eq (b := 5) (by omega) (by decide)).mp q))]
          exact Or.inr ⟨rfl, z, cf, fun q => c5 q.1⟩
  · obtain ⟨ν', e, h1, K1⟩ := bad (by omega)
    rw [if_neg (fun z => c20 (hm.k0.mp z))]
    exact Or.inl ⟨_, ν', e, h1, K1, Or.inl ⟨by omega, rfl⟩⟩
end Lines2
