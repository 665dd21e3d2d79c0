/-! a text: what both begin with, what they end with -/
def tx_end (v0 : Nat) (q41 : fMem) : Option (Int32 × fMem) :=
  vl (sI q41 v0 30 (q41.1 v0 28)) fun μ43 => vl (sI μ43 v0 31 (μ43.1 v0 29)) fun μ44 => if (μ44.1 v0 28) = 0 then bd (f_X11_half (v0 + 2) μ44) fun r47 μ46 => bd (f_X11_half (v0 + 3) μ46) fun r50 μ49 => bd (f_X11_half (v0 + 4) μ49) fun r53 μ52 => bd (f_X11_half (v0 + 5) μ52) fun r56 μ55 => bd (f_X11_half (v0 + 6) μ55) fun r59 μ58 => bd (f_X11_half (v0 + 7) μ58) fun r62 μ61 => bd (f_X11_half (v0 + 8) μ61) fun r65 μ64 => bd (f_X11_half (v0 + 9) μ64) fun r68 μ67 => bd (f_X11_half (v0 + 10) μ67) fun r71 μ70 => bd (f_X11_half (v0 + 11) μ70) fun r74 μ73 => bd (f_X11_half (v0 + 12) μ73) fun r77 μ76 => bd (f_X11_half (v0 + 13) μ76) fun r80 μ79 => bd (f_X11_half (v0 + 14) μ79) fun r83 μ82 => bd (f_X11_half (v0 + 15) μ82) fun r86 μ85 => bd (f_X11_half (v0 + 16) μ85) fun r89 μ88 => bd (f_X11_half (v0 + 17) μ88) fun r92 μ91 => bd (f_X11_half (v0 + 18) μ91) fun r95 μ94 => bd (f_X11_half (v0 + 19) μ94) fun r98 μ97 => vl (sI μ97 v0 57 (0 : Int32)) fun μ100 => vl (sI μ100 v0 58 (-1 : Int32)) fun μ101 => vl (sI μ101 v0 45 (0 : Int32)) fun μ102 => vl (sI μ102 v0 46 (0 : Int32)) fun μ103 => bd (f_X11_begins v0 μ103) fun r105 μ104 => some ((μ104.1 v0 22), μ104) else some ((-1 : Int32), μ44)
def tx_mid (v0 : Nat) (v1 : Int32) (μ1 : fMem) : Option (Int32 × fMem) :=
  vl (sI μ1 v0 23 v1) fun μ4 => vl (sI μ4 v0 2 (0 : Int32)) fun μ5 => vl (sI μ5 v0 24 (0 : Int32)) fun μ6 => vl (sI μ6 v0 28 (0 : Int32)) fun μ7 => vl (sI μ7 v0 29 (-1 : Int32)) fun μ8 => bd (lpn (fun (q : Int32 × fMem) => f_X11_text_L47 v0 q.1 q.2) fuel ((0 : Int32), μ8)) fun t14 q15 => (fun (x16 : Int32) (μ17 : fMem) => bd (lpn (fun (q : Int32 × fMem) => f_X11_text_L67 v0 q.1 q.2) fuel ((3 : Int32), μ17)) fun t24 q25 => (fun (x26 : Int32) (μ27 : fMem) => vl (sI μ27 v0 21 (0 : Int32)) fun μ28 => vl (sI μ28 v0 22 (0 : Int32)) fun μ29 => vl (sI μ29 v0 32 (0 : Int32)) fun μ30 => vl (sI μ30 v0 33 (0 : Int32)) fun μ31 => bd (f_X11_token v0 μ31) fun r33 μ32 => bd (lpn (fun (q : fMem) => f_X11_text_L117 v0 q) fuel (μ32)) fun t40 q41 => (fun  (q41 : fMem) => tx_end v0 q41) q41) q25.1 q25.2) q15.1 q15.2
def tc_end (v0 : Nat) (μ4 : fMem) : Option (Int32 × fMem) :=
  vl (μ4.2.2 v0 2) fun x8 => gd (kd x8 = (4, 2)) (bd (f_X5_trade (v0 + 30) x8 μ4) fun r11 μ10 => gd (kd r11 = (4, 2)) (vl (sR μ10 v0 2 r11) fun μ14 => vl (μ14.2.2 v0 2) fun x15 => gd (kd x15 = (4, 2)) (bd (f_X7_enter (v0 + 66) x15 μ14) fun r18 μ17 => bd (f_X4_clear (v0 + 123) μ17) fun r21 μ20 => bd (f_X8_clear (v0 + 130) μ20) fun r24 μ23 => vl (sI μ23 v0 6 (0 : Int32)) fun μ26 => bd (f_X0_forget (v0 + 84) μ26) fun r28 μ27 => vl (μ27.2.2 v0 2) fun x30 => gd (kd x30 = (4, 2)) (some ((μ27.1 x30 1), μ27)))))
theorem tx_eq (v0 : Nat) (v1 : Int32) (μ : fMem) : f_X11_text v0 v1 μ = vl (sI μ v0 0 0) fun μ1 => if v1 < 0 then some (-2, μ1) else if v1 ≤ (μ1.1 v0 2) then tx_mid v0 v1 μ1 else some (-2, μ1) := rfl
theorem tc_eq (v0 : Nat) (v1 : Int32) (μ : fMem) : f_X10_text v0 v1 μ = if v1 < 0 then some ((-2 : Int32), μ) else if v1 ≤ (μ.1 v0 1) then vl (sI μ v0 1 (0 : Int32)) fun μ3 => bd (f_X5_read (v0 + 30) (v0 + 1) v1 μ3) fun r5 μ4 => if r5 = 0 then some ((-1 : Int32), μ4) else tc_end v0 μ4 else some ((-2 : Int32), μ) := rfl
theorem sgn_23 (c n : Nat) : 23 ≤ (sgn c n).1 := by
  unfold sgn
  repeat' split
  all_goals decide
theorem Tok.v21 {b : Nat → Nat} {N p s pl v q : Nat} (h : Tok b N p s pl v q) (hs : s = 21) : v < 2 ^ 31 := by
  obtain ⟨-, h⟩ := h
  rcases h with ⟨-, z, -⟩ | ⟨-, -, -, h⟩ | ⟨-, -, -, -, h⟩ | ⟨-, -, -, z, -⟩
  · omega
  · rcases h with ⟨-, z⟩ | ⟨-, -, ⟨z, -⟩ | ⟨z, -⟩⟩ <;> omega
  · have := nvn_le b pl (q - pl)
    omega
  · have := sgn_23 (b pl) (atB b N (pl + 1))
    omega
theorem toks_ok {b : Nat → Nat} {N : Nat} {t : TQ} {K : Nat} {μ : fMem} (T : Toks b N t K) (C : CT μ t K 0) : ∃ t' : TQ, Toks b N t' K ∧ CT μ t' K 0 ∧ TkOk t' := by
  refine ⟨fun k => if k ≤ K then t k else (22, 0, 0, 0), ⟨T.1, fun k hk => ?_, fun k hk => ?_, ?_⟩, ⟨fun k hk => ?_, C.2.1, C.2.2.1, ?_, ?_, ?_⟩, fun j => ?_⟩
  · have := T.2.1 k hk
    dsimp only
    rw [if_pos hk, if_pos (show k - 1 ≤ K by omega)]
    exact this
  · dsimp only
    rw [if_pos (by omega)]
    exact T.2.2.1 k hk
  · dsimp only
    rw [if_pos (Nat.le_refl K)]
    exact T.2.2.2
  · dsimp only
    rw [if_pos hk]
    exact C.1 k hk
  · dsimp only
    rw [if_pos (Nat.zero_le K)]
    exact C.2.2.2.1
  · dsimp only
    rw [if_pos (Nat.zero_le K)]
    exact C.2.2.2.2.1
  · dsimp only
    rw [if_pos (Nat.zero_le K)]
    exact C.2.2.2.2.2
  · dsimp only
    by_cases z : j ≤ K
    · rw [if_pos z]
      exact ⟨(T.2.1 j z).bound.2.2.2.1, (T.2.1 j z).v21⟩
    · rw [if_neg z]
      exact ⟨by decide, by decide⟩
theorem kd_off : ∀ k, k < 18 → kd (183 + k) = (0, 2 * off (183 + k)) ∧ Int32.ofNat (2 * off (183 + k)) / 2 = nI (off (183 + k)) := by decide +kernel
theorem half_eq {k : Nat} (hk : 183 ≤ k) (hk2 : k ≤ 200) (ν : fMem) : Ok (f_X11_half k ν) (fun _ ν' => Kx (fun a j => a = k ∧ j < off k) BN ν ν' ∧ ∀ j, j < off k → ν'.1 k j = ν.1 k (off k + j)) := by
  obtain ⟨hd, hx⟩ := kd_off (k - 183) (by omega)
  rw [show 183 + (k - 183) = k by omega] at hd hx
  have ho : off k ≤ 64 := by
    unfold off
    repeat' split
    all_goals decide
  have hx' : Int32.ofNat (kd k).2 / 2 = nI (off k) := by rw [hd]; exact hx
  unfold f_X11_half
  rw [hx', Ok_vl, Ok_bd]
  refine Ok.mono (Q := fun _ (q : Int32 × fMem) => Kx (fun a j => a = k ∧ j < off k) BN ν q.2 ∧ ∀ j, j < off k → q.2.1 k j = ν.1 k (off k + j)) (Ok_lp (off k) (fun i (q : Int32 × fMem) => q.1 = nI i ∧ Kx (fun a j => a = k ∧ j < off k) BN ν q.2 ∧ ∀ j, j < i → q.2.1 k j = ν.1 k (off k + j)) (by omega) ⟨rfl, Kx.rfl', fun j hj => by omega⟩ ?_) ?_
  · rintro i ⟨z, ν1⟩ hi ⟨hz, K1, d1⟩
    dsimp only at hz K1 d1 ⊢
    subst hz
    unfold f_X11_half_L7
    rcases Nat.lt_or_ge i (off k) with q | q
    · rw [if_neg (nI_ge q (by omega)), nI_add, hd]
      simp only [gd_t (show ixo (nI (off k + i)) (2 * off k) from ixN (by omega) (by omega)), gd_t (show ixo (nI i) (2 * off k) from ixN (by omega) (by omega)), nI_clamp (show off k + i < 2 ^ 31 by omega), nI_clamp (show i < 2 ^ 31 by omega)]
      rw [Ok_vl, Ok_vl, nI_1, Ok_some]
      refine Or.inl ⟨rfl, q, rfl, K1.sI ⟨rfl, q⟩, fun j hj => ?_⟩
      rw [sI_i]
      by_cases c : j = i
      · subst c
        rw [if_pos ⟨rfl, rfl⟩, K1.2.1 k _ (by omega)]
      · rw [if_neg (by omega)]
        exact d1 j (by omega)
    · rw [if_pos (nI_le q (by omega)), Ok_some]
      have e : i = off k := by omega
      rw [e] at d1
      exact Or.inr ⟨0, rfl, K1, d1⟩
  · rintro u ⟨z, ν1⟩ ⟨K1, d1⟩
    exact Ok_some.mpr ⟨K1, d1⟩
def HfN (ν : fMem) (m : Nat) (ν' : fMem) : Prop := Kx (fun a j => 183 ≤ a ∧ a < m ∧ j < off a) BN ν ν' ∧ ∀ a, 183 ≤ a → a < m → ∀ j, j < off a → ν'.1 a j = ν.1 a (off a + j)
theorem HfN.step {ν ν1 : fMem} {m : Nat} (h : HfN ν m ν1) (h1 : 183 ≤ m) (h2 : m ≤ 200) : Ok (f_X11_half m ν1) (fun _ ν' => HfN ν (m + 1) ν') := by
  refine (half_eq h1 h2 ν1).mono ?_
  rintro - ν2 ⟨K2, d2⟩
  refine ⟨(h.1.wide (fun a j z => ⟨z.1, by omega, z.2.2⟩) (fun _ _ z => z)).trans (K2.wide (fun a j z => by obtain ⟨rfl, z⟩ := z; exact ⟨h1, by omega, z⟩) (fun _ _ z => z)), fun a h3 h4 j hj => ?_⟩
  by_cases c : a = m
  · subst c
    rw [d2 j hj]
    exact h.1.2.1 _ _ (by omega)
  · rw [K2.2.1 _ _ (by omega)]
    exact h.2 a h3 (by omega) j hj
/-- the house that was read -/
def tV (μ : fMem) (y : Nat) (c : Nat → Nat) (D : Nat → Nat → Bool) (L : Nat → List (Int32 × Int32)) : HV := (c, fun i j => if i < 8 then μ.1 (y + 8 + i) j else if i = 9 then μ.1 (y + 16) 2 else μ.1 (y + i - 7) j, D, L)
theorem tV_nm {μ : fMem} {y : Nat} {c : Nat → Nat} {D : Nat → Nat → Bool} {L : Nat → List (Int32 × Int32)} (w j : Nat) : (tV μ y c D L).2.1 (10 + w) j = μ.1 (y + 3 + w) j := by
  show (if 10 + w < 8 then _ else if 10 + w = 9 then _ else μ.1 (y + (10 + w) - 7) j) = _
  rw [if_neg (by omega), if_neg (by omega), show y + (10 + w) - 7 = y + 3 + w by omega]
theorem JB.house {μ ν ν' : fMem} {y : Nat} {c : Nat → Nat} {D : Nat → Nat → Bool} {L : Nat → List (Int32 × Int32)} (H : JB μ y ν c D L) (hF : HfN ν 201 ν') : HW (tV μ y c D L) ∧ CH μ y (tV μ y c D L) ∧ MH ν' (tV μ y c D L) := by
  obtain ⟨⟨n1, n2, n3⟩, -, f0, f2, f3, f4, ⟨d1, d2, d3, d4, d5⟩, ⟨l1, l2⟩⟩ := H
  obtain ⟨m0, m1, m2, m3, m4, m6⟩ := n3
  have g : ∀ a n j, 183 ≤ a → a ≤ 200 → off a = n → j < n → ν'.1 a j = ν.1 a (n + j) := by
    intro a n j h1 h2 h3 h4
    subst h3
    exact hF.2 a h1 (by omega) j h4
  have ml : ∀ l, l < 3 → ML ν' l (L l) := by
    intro l hl
    obtain ⟨-, -, a, e1, e2, e3, e4⟩ := l1 l hl
    refine ⟨a, by rw [g 197 3 l (by omega) (by omega) rfl hl]; exact e1, by rw [g 198 3 l (by omega) (by omega) rfl hl]; exact e2, by omega, fun i hi => ?_⟩
    obtain ⟨p, p1, p2, p3⟩ := e4 i hi
    exact ⟨p, p1, by rw [g 199 64 _ (by omega) (by omega) rfl (by omega), ← Nat.add_assoc]; exact p2, by rw [g 200 64 _ (by omega) (by omega) rfl (by omega), ← Nat.add_assoc]; exact p3⟩
  refine ⟨⟨m0, m1, m2, m3, m4, m6, fun t ht => ?_, fun d hd => ?_, fun q hq => ?_, fun k hk => (l1 k hk).1, fun i hi h => l2 i hi h, d1, d3⟩, ⟨fun w hw => (n1 w hw).1, n2.1, fun t ht => ⟨rfl, rfl, rfl⟩, fun d hd => ⟨rfl, rfl, rfl, rfl⟩, fun q hq => rfl, fun w hw j h1 h2 => (tV_nm w j).symm, d4, (l1 0 (by omega)).2.1, (l1 1 (by omega)).2.1, (l1 2 (by omega)).2.1, rfl⟩, ⟨fun w hw => ?_, ?_, fun t ht => ?_, fun d hd => ?_, fun q hq => ?_, fun j hj => ?_, fun j hj => ?_, fun j hj => ?_, fun a b ha hb => ?_, ml 0 (by omega), ml 1 (by omega), ml 2 (by omega)⟩⟩
  · obtain ⟨-, ⟨v, hv, e, -⟩, ⟨v1, hv1, e1, -⟩, ⟨v2, hv2, e2, -⟩⟩ := f2 t ht
    exact ⟨⟨v, hv, e⟩, ⟨v1, by omega, e1⟩, ⟨v2, by omega, e2⟩⟩
  · obtain ⟨-, ⟨v, hv, e, -⟩, ⟨v1, hv1, e1, -⟩, ⟨v2, hv2, e2, -⟩, ⟨v3, hv3, e3, -⟩⟩ := f3 d hd
    exact ⟨⟨v, by omega, e⟩, ⟨v1, by omega, e1⟩, ⟨v2, by omega, e2⟩, ⟨v3, by omega, e3⟩⟩
  · obtain ⟨v, hv, e, -⟩ := f4 q hq
    exact ⟨v, by omega, e⟩
  · rw [g 183 7 w (by omega) (by omega) rfl (by omega)]
    exact (n1 w hw).2
  · rw [g 183 7 6 (by omega) (by omega) rfl (by omega)]
    exact n2.2.1
  · have ht : t < c 2 := ht
    obtain ⟨-, ⟨v, hv, e, e'⟩, ⟨v1, hv1, e1, e1'⟩, ⟨v2, hv2, e2, e2'⟩⟩ := f2 t ht
    rw [g 188 8 t (by omega) (by omega) rfl (by omega), g 189 8 t (by omega) (by omega) rfl (by omega), g 190 8 t (by omega) (by omega) rfl (by omega)]
    exact ⟨e'.trans e.symm, e1'.trans e1.symm, e2'.trans e2.symm⟩
  · have hd : d < c 3 := hd
    obtain ⟨-, ⟨v, hv, e, e'⟩, ⟨v1, hv1, e1, e1'⟩, ⟨v2, hv2, e2, e2'⟩, ⟨v3, hv3, e3, e3'⟩⟩ := f3 d hd
    rw [g 192 6 d (by omega) (by omega) rfl (by omega), g 193 6 d (by omega) (by omega) rfl (by omega), g 194 6 d (by omega) (by omega) rfl (by omega), g 195 6 d (by omega) (by omega) rfl (by omega)]
    exact ⟨e'.trans e.symm, e1'.trans e1.symm, e2'.trans e2.symm, e3'.trans e3.symm⟩
  · have hq : q < c 4 := hq
    obtain ⟨v, hv, e, e'⟩ := f4 q hq
    rw [g 196 9 q (by omega) (by omega) rfl (by omega)]
    exact e'.trans e.symm
  · have hj : j < c 0 := hj
    rw [g 184 6 j (by omega) (by omega) rfl (by omega)]
    exact (f0 j hj).symm
  · have hj : j < c 2 := hj
    rw [g 187 8 j (by omega) (by omega) rfl (by omega)]
    exact (f2 j hj).1.symm
  · have hj : j < c 3 := hj
    rw [g 191 6 j (by omega) (by omega) rfl (by omega)]
    exact (f3 j hj).1.symm
  · refine (d5 a b ha hb).trans ⟨?_, ?_⟩
    · rintro ⟨i, hi, z⟩
      exact ⟨i, hi, by rw [g 185 9 i (by omega) (by omega) rfl (by omega), g 186 9 i (by omega) (by omega) rfl (by omega)]; exact z⟩
    · rintro ⟨i, hi, z⟩
      have hi : i < c 1 := hi
      exact ⟨i, hi, by rw [g 185 9 i (by omega) (by omega) rfl (by omega), g 186 9 i (by omega) (by omega) rfl (by omega)] at z; exact z⟩
def CST (μ : fMem) (y : Nat) : Prop := μ.1 y 1 = 0 ∧ μ.1 y 2 = 0 ∧ (∀ j, j < 6 → μ.1 (y + 1) j = 0 ∧ μ.1 (y + 7) j = 0) ∧ ∀ l, l < 3 → μ.1 (y + 16 + 4 * l) 0 = 0 ∧ μ.1 (y + 16 + 4 * l) 1 = 0 ∧ μ.1 (y + 16 + 4 * l) 2 = 0
def MST (ν : fMem) : Prop := (∀ w, w < 7 → ν.1 183 (7 + w) = 0) ∧ (∀ l, l < 3 → ν.1 197 (3 + l) = 0 ∧ ν.1 198 (3 + l) = 0) ∧ ν.1 181 21 = 0 ∧ ν.1 181 32 = 0 ∧ ν.1 181 33 = 0
theorem Tb_0 : ∀ i, i < 20 → ¬ Tb 0 i := by
  unfold Tb
  decide +kernel
theorem JB.start {μ ν : fMem} {y : Nat} (hC : CST μ y) (hM : MST ν) : JB μ y ν (fun _ => 0) (fun _ _ => false) (fun _ => []) := by
  obtain ⟨-, c2, c3, c4⟩ := hC
  obtain ⟨m1, m2, m3, m4, m5⟩ := hM
  refine ⟨⟨fun w hw => ⟨(c3 w (by omega)).1, m1 w (by omega)⟩, ⟨c2, m1 6 (by omega), m5, m4⟩, ⟨Nat.zero_le _, Nat.zero_le _, Nat.zero_le _, Nat.zero_le _, Nat.zero_le _, Nat.zero_le _⟩⟩, ⟨⟨(c3 5 (by omega)).1, Nat.zero_le _, ?_⟩, fun l hl => ⟨?_, ?_⟩⟩, fun j hj => absurd hj (Nat.not_lt_zero _), fun j hj => absurd hj (Nat.not_lt_zero _), fun j hj => absurd hj (Nat.not_lt_zero _), fun j hj => absurd hj (Nat.not_lt_zero _), ⟨fun _ _ => rfl, fun _ => rfl, fun _ _ h => (nomatch h), fun a b ha hb => ⟨fun _ => rfl, fun _ => ?_⟩, fun a b ha hb => ⟨fun h => (nomatch h), ?_⟩⟩, ⟨fun l hl => ⟨⟨Nat.zero_le _, fun k h => absurd h (List.not_mem_nil), Or.inl rfl⟩, ⟨(c4 l hl).2.1, fun i hi => absurd hi (Nat.not_lt_zero _)⟩, 0, (m2 l hl).1, (m2 l hl).2, Nat.le_refl _, fun i hi => absurd hi (Nat.not_lt_zero _)⟩, fun i hi _ p hp => absurd hp (List.not_mem_nil)⟩⟩
  · rw [m3]
    exact ⟨fun z => absurd z (Tb_0 5 (by omega)), fun z => (nomatch z)⟩
  · rw [if_pos rfl]
    exact (c4 l hl).1
  · rw [m3]
    exact ⟨fun z => absurd z (Tb_0 (16 + l) (by omega)), fun z => absurd rfl z⟩
  · show μ.1 (y + 7) a &&& _ = 0
    rw [(c3 a ha).2]
    exact Int32.zero_and
  · rintro ⟨i, hi, -⟩
    exact absurd hi (Nat.not_lt_zero _)
