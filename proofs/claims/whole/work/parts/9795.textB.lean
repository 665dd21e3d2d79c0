/-! a text, both sides -/
theorem MH.of' {ν ν' : fMem} {V : HV} (hV : HW V) (H : MH ν V) (e : ∀ c j n, 183 ≤ c → c ≤ 200 → off c = n → j < n → ν'.1 c j = ν.1 c j) : MH ν' V := by
  obtain ⟨h1, h2, h3, h4, h5, h6, h7, h8, h9, h10, h11, h12⟩ := H
  obtain ⟨v0, v1, v2, v3, v4, -⟩ := hV
  have ml : ∀ l, l < 3 → ∀ {L : List (Int32 × Int32)}, ML ν l L → ML ν' l L := by
    rintro l hl L ⟨a, q1, q2, q3, q4⟩
    refine ⟨a, by rw [e 197 l 3 (by omega) (by omega) rfl hl]; exact q1, by rw [e 198 l 3 (by omega) (by omega) rfl hl]; exact q2, q3, fun i hi => ?_⟩
    obtain ⟨kn, a1, a2, a3⟩ := q4 i hi
    exact ⟨kn, a1, by rw [e 199 _ 64 (by omega) (by omega) rfl (by omega)]; exact a2, by rw [e 200 _ 64 (by omega) (by omega) rfl (by omega)]; exact a3⟩
  refine ⟨fun w hw => ?_, ?_, fun t ht => ?_, fun d hd => ?_, fun g hg => ?_, fun j hj => ?_, fun j hj => ?_, fun j hj => ?_, fun a b ha hb => ?_, ml 0 (by omega) h10, ml 1 (by omega) h11, ml 2 (by omega) h12⟩
  · rw [e 183 w 7 (by omega) (by omega) rfl (by omega)]; exact h1 w hw
  · rw [e 183 6 7 (by omega) (by omega) rfl (by omega)]; exact h2
  · rw [e 188 t 8 (by omega) (by omega) rfl (by omega), e 189 t 8 (by omega) (by omega) rfl (by omega), e 190 t 8 (by omega) (by omega) rfl (by omega)]; exact h3 t ht
  · rw [e 192 d 6 (by omega) (by omega) rfl (by omega), e 193 d 6 (by omega) (by omega) rfl (by omega), e 194 d 6 (by omega) (by omega) rfl (by omega), e 195 d 6 (by omega) (by omega) rfl (by omega)]; exact h4 d hd
  · rw [e 196 g 9 (by omega) (by omega) rfl (by omega)]; exact h5 g hg
  · rw [e 184 j 6 (by omega) (by omega) rfl (by omega)]; exact h6 j hj
  · rw [e 187 j 8 (by omega) (by omega) rfl (by omega)]; exact h7 j hj
  · rw [e 191 j 6 (by omega) (by omega) rfl (by omega)]; exact h8 j hj
  · rw [h9 a b ha hb]
    constructor
    · rintro ⟨k, hk, q⟩
      exact ⟨k, hk, by rw [e 185 k 9 (by omega) (by omega) rfl (by omega), e 186 k 9 (by omega) (by omega) rfl (by omega)]; exact q⟩
    · rintro ⟨k, hk, q⟩
      exact ⟨k, hk, by rw [e 185 k 9 (by omega) (by omega) rfl (by omega), e 186 k 9 (by omega) (by omega) rfl (by omega)] at q; exact q⟩
abbrev AQ (a j : Nat) : Prop := AP a j ∨ (a = 181 ∧ j = 2)
theorem AP_183 {j : Nat} (h : 7 ≤ j) : AP 183 j := Or.inr ⟨by omega, by omega, h⟩
theorem AP_197 {a j : Nat} (ha : a = 197 ∨ a = 198) (h : 3 ≤ j) : AP a j := by
  rcases ha with rfl | rfl <;> exact Or.inr ⟨by omega, by omega, h⟩
/-- how the reference begins -/
theorem mread_begin {ν : fMem} {b : Nat → Nat} {N K : Nat} {t : TQ} (hN : N ≤ 700) (hb : ∀ j, j < N → b j ≤ 255 ∧ ν.1 182 j = nI (b j)) (T : Toks b N t K) : ∃ ν', tx_mid 181 (nI N) ν = bd (lpn (fun (q : fMem) => f_X11_text_L117 181 q) fuel ν') (fun _ q => tx_end 181 q) ∧ Kx AQ BN ν ν' ∧ ν'.1 181 2 = 0 ∧ RS b N t K ν' none 0 ∧ ν'.1 181 22 = 0 ∧ MST ν' := by
  unfold tx_mid
  simp only [vl]
  generalize hν8 : sI (sI (sI (sI (sI ν 181 23 (nI N)) 181 2 0) 181 24 0) 181 28 0) 181 29 (-1) = ν8
  have K8 : Kx AQ BN ν ν8 := by
    subst hν8
    exact ((((Kx.rfl'.sI (Or.inl (Or.inl (by omega)))).sI (Or.inr (by omega))).sI (Or.inl (Or.inl (by omega)))).sI (Or.inl (Or.inl (by omega)))).sI (Or.inl (Or.inl (by omega)))
  have g8 : ν8.1 181 23 = nI N ∧ ν8.1 181 2 = 0 ∧ ν8.1 181 24 = 0 ∧ ν8.1 181 28 = 0 ∧ ν8.1 181 29 = -1 ∧ ∀ j, ν8.1 182 j = ν.1 182 j := by
    subst hν8
    refine ⟨?_, ?_, ?_, ?_, ?_, fun j => ?_⟩ <;> simp [sI_i]
  obtain ⟨u9, ⟨z9, ν9⟩, e9, K9, g9⟩ : Ok (lpn (fun (q : Int32 × fMem) => f_X11_text_L47 181 q.1 q.2) fuel ((0 : Int32), ν8)) (fun _ q => Kx (fun a j => a = 183 ∧ 7 ≤ j) BN ν8 q.2 ∧ ∀ w, w < 7 → q.2.1 183 (7 + w) = 0) := by
    refine Ok_lp 7 (fun i (q : Int32 × fMem) => q.1 = nI i ∧ Kx (fun a j => a = 183 ∧ 7 ≤ j) BN ν8 q.2 ∧ ∀ w, w < i → q.2.1 183 (7 + w) = 0) (by omega) ⟨rfl, Kx.rfl', fun w hw => by omega⟩ ?_
    rintro i ⟨z, ν1⟩ hi ⟨hz, K1, d1⟩
    dsimp only at hz K1 d1 ⊢
    subst hz
    unfold f_X11_text_L47 f_X11_reads
    rcases Nat.lt_or_ge i 7 with q | q
    · rw [if_neg (show ¬ 7 ≤ nI i from nI_ge (b := 7) q (by omega)), show (7 : Int32) + nI i = nI (7 + i) from nI_add 7 i, gd_t (ixN (show 7 + i < 14 by omega) (by omega)), nI_clamp (by omega)]
      simp only [vl, bd_some, nI_1, Nat.reduceAdd]
      rw [Ok_some]
      refine Or.inl ⟨rfl, q, rfl, K1.sI ⟨rfl, by omega⟩, fun w hw => ?_⟩
      rw [sI_i]
      by_cases c : w = i
      · rw [if_pos ⟨rfl, by omega⟩]
      · rw [if_neg (by omega)]; exact d1 w (by omega)
    · rw [if_pos (show 7 ≤ nI i from nI_le (a := 7) q (by omega)), Ok_some]
      exact Or.inr ⟨0, rfl, K1, fun w hw => d1 w (by omega)⟩
  obtain ⟨u10, ⟨z10, ν10⟩, e10, K10, g10⟩ : Ok (lpn (fun (q : Int32 × fMem) => f_X11_text_L67 181 q.1 q.2) fuel ((3 : Int32), ν9)) (fun _ q => Kx (fun a j => (a = 197 ∨ a = 198) ∧ 3 ≤ j) BN ν9 q.2 ∧ ∀ l, l < 3 → q.2.1 197 (3 + l) = 0 ∧ q.2.1 198 (3 + l) = 0) := by
    refine Ok_lp 3 (fun i (q : Int32 × fMem) => q.1 = nI (3 + i) ∧ Kx (fun a j => (a = 197 ∨ a = 198) ∧ 3 ≤ j) BN ν9 q.2 ∧ ∀ l, l < i → q.2.1 197 (3 + l) = 0 ∧ q.2.1 198 (3 + l) = 0) (by omega) ⟨rfl, Kx.rfl', fun w hw => by omega⟩ ?_
    rintro i ⟨z, ν1⟩ hi ⟨hz, K1, d1⟩
    dsimp only at hz K1 d1 ⊢
    subst hz
    unfold f_X11_text_L67
    rcases Nat.lt_or_ge i 3 with q | q
    · rw [if_neg (show ¬ 6 ≤ nI (3 + i) from nI_ge (b := 6) (by omega) (by omega))]
      simp only [gd_t (show ixo (nI (3 + i)) 6 from ixN (by omega) (by omega)), nI_clamp (show 3 + i < 2 ^ 31 by omega), vl, nI_1, Nat.reduceAdd]
      rw [Ok_some]
      refine Or.inl ⟨rfl, q, by rw [Nat.add_assoc], (K1.sI ⟨Or.inl rfl, by omega⟩).sI ⟨Or.inr rfl, by omega⟩, fun l hl => ?_⟩
      rw [sI_i, sI_i, sI_i, sI_i]
      by_cases c : l = i
      · rw [if_neg (by omega), if_pos ⟨rfl, by omega⟩, if_pos ⟨rfl, by omega⟩]
        exact ⟨rfl, rfl⟩
      · rw [if_neg (by omega), if_neg (by omega), if_neg (by omega), if_neg (by omega)]
        exact d1 l (by omega)
    · rw [if_pos (show 6 ≤ nI (3 + i) from nI_le (a := 6) (by omega) (by omega)), Ok_some]
      exact Or.inr ⟨0, rfl, K1, fun l hl => d1 l (by omega)⟩
  dsimp only at K9 g9 K10 g10
  have hA : Kx AQ BN ν ν10 := (K8.trans (K9.wide (fun a j z => by obtain ⟨rfl, z⟩ := z; exact Or.inl (AP_183 z)) (fun _ _ z => z))).trans (K10.wide (fun a j z => Or.inl (AP_197 z.1 z.2)) (fun _ _ z => z))
  have f10 : ∀ a j, a < 183 → ν10.1 a j = ν8.1 a j := fun a j h => by rw [K10.2.1 _ _ (by omega), K9.2.1 _ _ (by omega)]
  rw [e9, bd_some]
  dsimp only
  rw [e10, bd_some]
  dsimp only
  generalize hν11 : sI (sI (sI (sI ν10 181 21 0) 181 22 0) 181 32 0) 181 33 0 = ν11
  have K11 : Kx AQ BN ν ν11 := by
    subst hν11
    exact (((hA.sI (Or.inl (Or.inl (by omega)))).sI (Or.inl (Or.inl (by omega)))).sI (Or.inl (Or.inl (by omega)))).sI (Or.inl (Or.inl (by omega)))
  have g11 : ν11.1 181 21 = 0 ∧ ν11.1 181 22 = 0 ∧ ν11.1 181 32 = 0 ∧ ν11.1 181 33 = 0 := by
    subst hν11
    refine ⟨?_, ?_, ?_, ?_⟩ <;> simp [sI_i]
  have f11 : ∀ a j, ¬ (a = 181 ∧ (j = 21 ∨ j = 22 ∨ j = 32 ∨ j = 33)) → ν11.1 a j = ν10.1 a j := by
    intro a j h
    subst hν11
    rw [sI_i, if_neg (by omega), sI_i, if_neg (by omega), sI_i, if_neg (by omega), sI_i, if_neg (by omega)]
  have B11 : CBM ν11 b N := ⟨by rw [f11 _ _ (by omega), f10 _ _ (by omega)]; exact g8.1, hN, fun j hj => ⟨(hb j hj).1, by rw [f11 _ _ (by omega), f10 _ _ (by omega), g8.2.2.2.2.2]; exact (hb j hj).2⟩⟩
  obtain ⟨u12, ν12, e12, K12, T12⟩ := token_0 T B11 (by rw [f11 _ _ (by omega), f10 _ _ (by omega)]; exact g8.2.2.1) (by rw [f11 _ _ (by omega), f10 _ _ (by omega)]; exact g8.2.2.2.2.1)
  rw [e12, bd_some]
  have f12 : ∀ a j, ¬ AM a j → ν12.1 a j = ν11.1 a j := fun a j h => K12.2.1 a j h
  refine ⟨ν12, rfl, K11.trans (K12.wide (fun a j z => Or.inl (Or.inl (by omega))) (fun _ _ z => z)), ?_, ⟨B11.kx K12, Nat.zero_le _, ?_, T12⟩, ?_, ⟨fun w hw => ?_, fun l hl => ?_, ?_, ?_, ?_⟩⟩
  · rw [f12 _ _ (by omega), f11 _ _ (by omega), f10 _ _ (by omega)]; exact g8.2.1
  · rw [f12 _ _ (by omega), f11 _ _ (by omega), f10 _ _ (by omega)]; exact g8.2.2.2.1
  · rw [f12 _ _ (by omega)]; exact g11.2.1
  · rw [f12 _ _ (by omega), f11 _ _ (by omega), K10.2.1 _ _ (by omega)]; exact g9 w hw
  · rw [f12 _ _ (by omega), f11 _ _ (by omega), f12 _ _ (by omega), f11 _ _ (by omega)]; exact g10 l hl
  · rw [f12 _ _ (by omega)]; exact g11.1
  · rw [f12 _ _ (by omega)]; exact g11.2.2.1
  · rw [f12 _ _ (by omega)]; exact g11.2.2.2
