/-! tokens of a text, as the class cuts them -/
abbrev isL (c : Nat) : Prop := 97 ≤ c ∧ c ≤ 122
abbrev isD (c : Nat) : Prop := 48 ≤ c ∧ c ≤ 57
abbrev isB (c : Nat) : Prop := c = 10 ∨ c = 32
def Run (P : Nat → Prop) (b : Nat → Nat) (N p q : Nat) : Prop := p ≤ q ∧ q ≤ N ∧ (∀ j, p ≤ j → j < q → P (b j)) ∧ (q < N → ¬ P (b q))
def wvn (d : Nat → Nat) : Nat → Nat
  | 0 => 0
  | i + 1 => wvn d i * 32 + d i
def dg (b : Nat → Nat) (p L i : Nat) : Nat := if i < L then b (p + i) - 96 else 0
def nvn (b : Nat → Nat) (p : Nat) : Nat → Nat
  | 0 => 0
  | i + 1 => min (nvn b p i * 10 + (b (p + i) - 48)) 1000000
def sgn (c n : Nat) : Nat × Nat := if c = 40 then (25, 1) else if c = 41 then (26, 1) else if c = 42 then (35, 1) else if c = 43 then (33, 1) else if c = 45 then (34, 1) else if c = 47 then (36, 1) else if c = 59 then (24, 1) else if c = 60 then (if n = 61 then (28, 2) else if n = 62 then (30, 2) else (27, 1)) else if c = 61 then (29, 1) else if c = 62 then (if n = 61 then (31, 2) else (32, 1)) else (23, 1)
def atB (b : Nat → Nat) (N k : Nat) : Nat := if k < N then b k else 0
def Tok (b : Nat → Nat) (N p s pl v q : Nat) : Prop := Run isB b N p pl ∧ ((pl = N ∧ s = 22 ∧ q = N) ∨ (pl < N ∧ isL (b pl) ∧ Run isL b N pl q ∧ ((6 < q - pl ∧ s = 23) ∨ (q - pl ≤ 6 ∧ v = wvn (dg b pl (q - pl)) 6 ∧ ((s = 20 ∧ ∀ w, w < 20 → ¬ lwT w = nI v) ∨ (s < 20 ∧ lwT s = nI v))))) ∨ (pl < N ∧ isD (b pl) ∧ Run isD b N pl q ∧ s = 21 ∧ v = nvn b pl (q - pl)) ∨ (pl < N ∧ ¬ isL (b pl) ∧ ¬ isD (b pl) ∧ s = (sgn (b pl) (atB b N (pl + 1))).1 ∧ q = pl + (sgn (b pl) (atB b N (pl + 1))).2))
theorem wvn_congr {d e : Nat → Nat} : ∀ {n : Nat}, (∀ i, i < n → d i = e i) → wvn d n = wvn e n
  | 0, _ => rfl
  | n + 1, h => by unfold wvn; rw [wvn_congr (fun i hi => h i (by omega)), h n (by omega)]
theorem wvn_lt {d : Nat → Nat} : ∀ {n : Nat}, (∀ i, i < n → d i < 32) → wvn d n < 32 ^ n
  | 0, _ => by unfold wvn; decide
  | n + 1, h => by
    have a := wvn_lt (n := n) fun i hi => h i (by omega)
    have c := h n (by omega)
    unfold wvn
    rw [Nat.pow_succ]
    omega
theorem nvn_le (b : Nat → Nat) (p : Nat) : ∀ n, nvn b p n ≤ 1000000
  | 0 => by unfold nvn; omega
  | n + 1 => by unfold nvn; omega
/-- the bytes that are cut -/
def CB (μ : fMem) (b : Nat → Nat) (N : Nat) : Prop := μ.1 31 9 = nI N ∧ N ≤ 700 ∧ ∀ j, j < N → b j ≤ 255 ∧ μ.1 36 j = nI (b j)
abbrev AT (k j : Nat) : Prop := k = 31 ∧ (j = 0 ∨ j = 1 ∨ j = 2 ∨ j = 10)
theorem CB.kx {μ μ' : fMem} {b : Nat → Nat} {N : Nat} (H : CB μ b N) (K : Kx AT BN μ μ') : CB μ' b N := ⟨by rw [K.2.1 31 9 (by omega)]; exact H.1, H.2.1, fun j hj => ⟨(H.2.2 j hj).1, by rw [K.2.1 36 j (by omega)]; exact (H.2.2 j hj).2⟩⟩
theorem isLetter_eq {c : Nat} (hc : c < 2 ^ 31) (μ : fMem) : f_X9_isLetter (nI c) μ = some ((if isL c then 1 else 0), μ) := by
  unfold f_X9_isLetter
  by_cases h : c < 97
  · rw [if_pos (show nI c < 97 from nI_lt (b := 97) h (by decide)), gd_t (Or.inl rfl), if_neg (by omega)]
  · rw [if_neg (show ¬ nI c < 97 from nI_nlt (b := 97) (by omega) hc)]
    by_cases h2 : 122 < c
    · rw [if_pos (show 122 < nI c from nI_lt (a := 122) h2 hc), gd_t (Or.inl rfl), if_neg (by omega)]
    · rw [if_neg (show ¬ 122 < nI c from nI_nlt (a := 122) (by omega) (by decide)), gd_t (Or.inr rfl), if_pos (by omega)]
theorem isDigit_eq {c : Nat} (hc : c < 2 ^ 31) (μ : fMem) : f_X9_isDigit (nI c) μ = some ((if isD c then 1 else 0), μ) := by
  unfold f_X9_isDigit
  by_cases h : c < 48
  · rw [if_pos (show nI c < 48 from nI_lt (b := 48) h (by decide)), gd_t (Or.inl rfl), if_neg (by omega)]
  · rw [if_neg (show ¬ nI c < 48 from nI_nlt (b := 48) (by omega) hc)]
    by_cases h2 : 57 < c
    · rw [if_pos (show 57 < nI c from nI_lt (a := 57) h2 hc), gd_t (Or.inl rfl), if_neg (by omega)]
    · rw [if_neg (show ¬ 57 < nI c from nI_nlt (a := 57) (by omega) (by decide)), gd_t (Or.inr rfl), if_pos (by omega)]
theorem isSmall_eq {c : Nat} (hc : c < 2 ^ 31) (μ : fMem) : f_X11_isSmall (nI c) μ = some ((if isL c then 1 else 0), μ) := isLetter_eq hc μ
theorem isDigitM_eq {c : Nat} (hc : c < 2 ^ 31) (μ : fMem) : f_X11_isDigit (nI c) μ = some ((if isD c then 1 else 0), μ) := isDigit_eq hc μ
theorem atB_le {μ : fMem} {b : Nat → Nat} {N : Nat} (H : CB μ b N) (k : Nat) : atB b N k ≤ 255 := by
  unfold atB
  split
  · exact (H.2.2 k (by assumption)).1
  · omega
theorem signAt_eq {μ : fMem} {b : Nat → Nat} {N : Nat} (H : CB μ b N) {k : Nat} (hk : k ≤ N + 1) : f_X9_signAt 31 (nI k) μ = some (nI (atB b N k), μ) := by
  have hN := H.2.1
  unfold f_X9_signAt atB
  rw [if_neg (nI_pos (by omega)), H.1]
  by_cases h : k < N
  · rw [if_neg (nI_ge h (by omega)), if_neg (show ¬ 700 ≤ nI k from nI_ge (b := 700) (by omega) (by decide)), gd_t (ixN (by omega) (by omega)), nI_clamp (by omega), if_pos h, (H.2.2 k h).2]
  · rw [if_pos (nI_le (by omega) (by omega)), if_neg h]; rfl
theorem cskip {μ : fMem} {b : Nat → Nat} {N p : Nat} (H : CB μ b N) (hp : p ≤ N) (ha : μ.1 31 10 = nI p) : Ok (lpn (fun (q : fMem) => f_X9_cutOne_L0 31 q) fuel μ) (fun _ μ' => Kx AT BN μ μ' ∧ ∃ q, Run isB b N p q ∧ μ'.1 31 10 = nI q) := by
  have hN := H.2.1
  refine Ok_lp (N - p) (fun i (q : fMem) => Kx AT BN μ q ∧ q.1 31 10 = nI (p + i) ∧ ∀ j, p ≤ j → j < p + i → isB (b j)) (by omega) ⟨Kx.rfl', ha, fun j a c => by omega⟩ ?_
  rintro i μ1 hi ⟨K1, a1, r1⟩
  have H1 := H.kx K1
  unfold f_X9_cutOne_L0 f_X9_cutOne_j37
  rw [H1.1, a1]
  rcases Nat.lt_or_ge (p + i) N with c | c
  · have hb := (H.2.2 _ c).1
    have eA : atB b N (p + i) = b (p + i) := if_pos c
    have fin : isB (b (p + i)) → Ok (vl (sI μ1 31 10 (nI (p + i) + 1)) fun μ10 => some (0, μ10)) (fun t s' => (t = 0 ∧ i < N - p ∧ (Kx AT BN μ s' ∧ s'.1 31 10 = nI (p + (i + 1)) ∧ ∀ j, p ≤ j → j < p + (i + 1) → isB (b j))) ∨ ∃ u, t = u + 1 ∧ (Kx AT BN μ s' ∧ ∃ q, Run isB b N p q ∧ s'.1 31 10 = nI q)) := by
      intro hz
      rw [Ok_vl, Ok_some]
      refine Or.inl ⟨rfl, by omega, K1.sI (by omega), by rw [sI_i, if_pos ⟨rfl, rfl⟩, nI_1]; rfl, fun j q w => ?_⟩
      rcases Nat.lt_or_ge j (p + i) with z | z
      · exact r1 j q z
      · rw [show j = p + i by omega]; exact hz
    rw [if_neg (nI_ge c (by omega)), signAt_eq H1 (by omega), bd_some, eA]
    by_cases h1 : b (p + i) = 10
    · rw [if_pos (show nI (b (p + i)) = 10 by rw [h1]; rfl), a1]
      exact fin (Or.inl h1)
    · rw [if_neg (show ¬ nI (b (p + i)) = 10 from fun z => h1 ((nI_eq (b := 10) (by omega) (by decide)).mp z)), a1, signAt_eq H1 (by omega), bd_some, eA]
      by_cases h2 : b (p + i) = 32
      · rw [if_pos (show nI (b (p + i)) = 32 by rw [h2]; rfl), a1]
        exact fin (Or.inr h2)
      · rw [if_neg (show ¬ nI (b (p + i)) = 32 from fun z => h2 ((nI_eq (b := 32) (by omega) (by decide)).mp z)), Ok_some]
        exact Or.inr ⟨0, rfl, K1, p + i, ⟨by omega, by omega, r1, fun _ z => by omega⟩, a1⟩
  · rw [if_pos (nI_le c (by omega)), Ok_some]
    exact Or.inr ⟨0, rfl, K1, p + i, ⟨by omega, by omega, r1, fun z => by omega⟩, a1⟩
theorem let31 : ∀ n, n < 26 → nI (97 + n) &&& 31 = nI (n + 1) := by decide +kernel
theorem let_31 {c : Nat} (h : isL c) : nI c &&& 31 = nI (c - 96) := by
  have := let31 (c - 97) (by omega)
  rw [show 97 + (c - 97) = c by omega, show c - 97 + 1 = c - 96 by omega] at this
  exact this
theorem wv_step (a c : Nat) : nI a * 32 + nI c = nI (a * 32 + c) := by
  rw [show (32 : Int32) = nI 32 from rfl, nI_mul, nI_add]
theorem cword {μ : fMem} {b : Nat → Nat} {N p : Nat} (H : CB μ b N) (hw : ∀ j, j < 20 → μ.1 32 j = lwT j) (hp : p < N) (ha : μ.1 31 10 = nI p) (h1 : μ.1 31 1 = nI p) (h2 : μ.1 31 2 = 0) : Ok (f_X9_cutWord 31 μ) (fun _ μ' => Kx AT BN μ μ' ∧ μ'.1 31 1 = nI p ∧ ∃ s v q, Run isL b N p q ∧ ((6 < q - p ∧ s = 23) ∨ (q - p ≤ 6 ∧ v = wvn (dg b p (q - p)) 6 ∧ ((s = 20 ∧ ∀ w, w < 20 → ¬ lwT w = nI v) ∨ (s < 20 ∧ lwT s = nI v)))) ∧ μ'.1 31 0 = nI s ∧ μ'.1 31 2 = nI v ∧ μ'.1 31 10 = nI q) := by
  have hN := H.2.1
  unfold f_X9_cutWord
  rw [Ok_bd]
  refine Ok.mono (Q := fun _ (μ1 : fMem) => Kx AT BN μ μ1 ∧ μ1.1 31 1 = nI p ∧ ∃ q, Run isL b N p q ∧ μ1.1 31 10 = nI q ∧ μ1.1 31 2 = nI (wvn (fun i => b (p + i) - 96) (min (q - p) 6))) (Ok_lp (N - p) (fun i (μ1 : fMem) => Kx AT BN μ μ1 ∧ μ1.1 31 1 = nI p ∧ μ1.1 31 10 = nI (p + i) ∧ (∀ j, p ≤ j → j < p + i → isL (b j)) ∧ μ1.1 31 2 = nI (wvn (fun i => b (p + i) - 96) (min i 6))) (by omega) ⟨Kx.rfl', h1, ha, fun j a c => by omega, by rw [h2]; rfl⟩ ?_) ?_
  · rintro i μ1 hi ⟨K1, e1, a1, r1, w1⟩
    have H1 := H.kx K1
    unfold f_X9_cutWord_L0 f_X9_cutWord_j62
    rw [H1.1, a1]
    rcases Nat.lt_or_ge (p + i) N with c | c
    · have hb := (H.2.2 _ c).1
      have eA : atB b N (p + i) = b (p + i) := if_pos c
      rw [if_neg (nI_ge c (by omega)), signAt_eq H1 (by omega), bd_some, eA, isLetter_eq (by omega), bd_some]
      by_cases hl : isL (b (p + i))
      · have hr : ∀ j, p ≤ j → j < p + (i + 1) → isL (b j) := by
          intro j q w
          rcases Nat.lt_or_ge j (p + i) with z | z
          · exact r1 j q z
          · rw [show j = p + i by omega]; exact hl
        rw [if_pos hl, if_neg (by decide), a1, e1, Nat.add_comm p i, nI_sub]
        rcases Nat.lt_or_ge i 6 with c6 | c6
        · rw [if_neg (show ¬ 6 ≤ nI i from nI_ge (b := 6) c6 (by decide)), Nat.add_comm i p, signAt_eq H1 (by omega), bd_some, eA, Ok_vl, Ok_vl, Ok_some, let_31 hl, w1, wv_step]
          refine Or.inl ⟨rfl, by omega, (K1.sI (by omega)).sI (by omega), by rw [sI_i, if_neg (by omega), sI_i, if_neg (by omega)]; exact e1, ?_, hr, ?_⟩
          · rw [sI_i, if_pos ⟨rfl, rfl⟩, sI_i, if_neg (by omega), a1, nI_1]; rfl
          · rw [sI_i, if_neg (by omega), sI_i, if_pos ⟨rfl, rfl⟩, show min (i + 1) 6 = i + 1 by omega, show min i 6 = i by omega]; rfl
        · rw [if_pos (show 6 ≤ nI i from nI_le (a := 6) c6 (by omega)), Ok_vl, Ok_some]
          refine Or.inl ⟨rfl, by omega, K1.sI (by omega), by rw [sI_i, if_neg (by omega)]; exact e1, ?_, hr, ?_⟩
          · rw [sI_i, if_pos ⟨rfl, rfl⟩, nI_1, show i + p + 1 = p + (i + 1) by omega]
          · rw [sI_i, if_neg (by omega), w1, show min (i + 1) 6 = 6 by omega, show min i 6 = 6 by omega]
      · rw [if_neg hl, if_pos rfl, Ok_some]
        exact Or.inr ⟨0, rfl, K1, e1, p + i, ⟨by omega, by omega, r1, fun _ => hl⟩, a1, by rw [w1, show p + i - p = i by omega]⟩
    · rw [if_pos (nI_le c (by omega)), Ok_some]
      exact Or.inr ⟨0, rfl, K1, e1, p + i, ⟨by omega, by omega, r1, fun z => by omega⟩, a1, by rw [w1, show p + i - p = i by omega]⟩
  · rintro - μ1 ⟨K1, e1, q, hq, a1, w1⟩
    have hq1 := hq.1
    have hq2 := hq.2.1
    dsimp only
    rw [Ok_vl, a1, e1, show nI q - nI p = nI (q - p) by rw [← nI_sub (q - p) p, show q - p + p = q by omega], Ok_bd]
    generalize hL : q - p = L at w1 ⊢
    refine Ok.mono (Q := fun _ (z : Int32 × fMem) => Kx AT BN μ z.2 ∧ z.2.1 31 1 = nI p ∧ z.2.1 31 10 = nI q ∧ ∃ v, z.2.1 31 2 = nI v ∧ (L ≤ 6 → v = wvn (dg b p L) 6)) (Ok_lp (6 - L) (fun i (z : Int32 × fMem) => z.1 = nI (L + i) ∧ Kx AT BN μ z.2 ∧ z.2.1 31 1 = nI p ∧ z.2.1 31 10 = nI q ∧ ∃ v, z.2.1 31 2 = nI v ∧ (L ≤ 6 → v = wvn (dg b p L) (L + i))) (by omega) ⟨rfl, K1, e1, a1, _, w1, fun h6 => ?_⟩ ?_) ?_
    · rw [show min L 6 = L by omega]
      exact wvn_congr fun i hi => by unfold dg; rw [if_pos (by omega)]
    · rintro i ⟨x1, μ2⟩ hi ⟨hx, K2, e2, a2, v, w2, h6⟩
      dsimp only at hx K2 e2 a2 w2 h6 ⊢
      subst hx
      unfold f_X9_cutWord_L87
      rcases Nat.lt_or_ge (L + i) 6 with c | c
      · rw [if_neg (show ¬ 6 ≤ nI (L + i) from nI_ge (b := 6) c (by decide)), Ok_vl, Ok_vl, Ok_some, nI_1, w2, show (32 : Int32) = nI 32 from rfl, nI_mul]
        refine Or.inl ⟨rfl, by omega, rfl, K2.sI (by omega), by rw [sI_i, if_neg (by omega)]; exact e2, by rw [sI_i, if_neg (by omega)]; exact a2, v * 32, by rw [sI_i, if_pos ⟨rfl, rfl⟩], fun z => ?_⟩
        rw [h6 z, ← Nat.add_assoc]
        show _ = wvn (dg b p L) (L + i) * 32 + dg b p L (L + i)
        rw [show dg b p L (L + i) = 0 from if_neg (by omega)]
        rfl
      · rw [if_pos (show 6 ≤ nI (L + i) from nI_le (a := 6) c (by omega)), Ok_some]
        exact Or.inr ⟨0, rfl, K2, e2, a2, v, w2, fun z => by rw [h6 z, show L + i = 6 by omega]⟩
    · rintro - ⟨x1, μ2⟩ ⟨K2, e2, a2, v, w2, h6⟩
      dsimp only at K2 e2 a2 w2 h6 ⊢
      have key : ∀ s0 : Nat, (s0 = 20 ∨ s0 = 23) → Ok (f_X9_cutWord_j124 31 31 (nI s0) μ2) (fun _ μ' => Kx AT BN μ μ' ∧ μ'.1 31 1 = nI p ∧ μ'.1 31 2 = nI v ∧ μ'.1 31 10 = nI q ∧ ∃ s, μ'.1 31 0 = nI s ∧ ((s0 = 23 ∧ s = 23) ∨ (s0 = 20 ∧ ((s = 20 ∧ ∀ w, w < 20 → ¬ lwT w = nI v) ∨ (s < 20 ∧ lwT s = nI v))))) := by
        intro s0 hs0
        unfold f_X9_cutWord_j124
        rw [Ok_vl, Ok_bd]
        refine Ok.mono (Q := fun _ (z : Int32 × fMem) => Kx AT BN μ z.2 ∧ z.2.1 31 1 = nI p ∧ z.2.1 31 2 = nI v ∧ z.2.1 31 10 = nI q ∧ ∃ s, z.2.1 31 0 = nI s ∧ ((s0 = 23 ∧ s = 23) ∨ (s0 = 20 ∧ ((s = 20 ∧ ∀ w, w < 20 → ¬ lwT w = nI v) ∨ (s < 20 ∧ lwT s = nI v))))) (Ok_lp 20 (fun i (z : Int32 × fMem) => z.1 = nI i ∧ Kx AT BN μ z.2 ∧ z.2.1 31 1 = nI p ∧ z.2.1 31 2 = nI v ∧ z.2.1 31 10 = nI q ∧ ∃ s, z.2.1 31 0 = nI s ∧ ((s0 = 23 ∧ s = 23) ∨ (s0 = 20 ∧ ((s = 20 ∧ ∀ w, w < i → ¬ lwT w = nI v) ∨ (s < 20 ∧ lwT s = nI v))))) (by decide) ⟨rfl, K2.sI (by omega), by rw [sI_i, if_neg (by omega)]; exact e2, by rw [sI_i, if_neg (by omega)]; exact w2, by rw [sI_i, if_neg (by omega)]; exact a2, s0, by rw [sI_i, if_pos ⟨rfl, rfl⟩], ?_⟩ ?_) ?_
        · rcases hs0 with h | h
          · exact Or.inr ⟨h, Or.inl ⟨h, fun w hw => by omega⟩⟩
          · exact Or.inl ⟨h, h⟩
        · rintro i ⟨x3, μ3⟩ hi ⟨hx, K3, e3, w3, a3, s, s3, o3⟩
          dsimp only at hx K3 e3 w3 a3 s3 ⊢
          subst hx
          unfold f_X9_cutWord_L129
          simp only [Nat.reduceAdd]
          rw [s3, w3, K3.2.1 32 _ (by omega)]
          rcases Nat.lt_or_ge i 20 with c | c
          · rw [if_neg (show ¬ 20 ≤ nI i from nI_ge (b := 20) c (by decide)), gd_t (ixN (by omega) (by omega)), nI_clamp (by omega), hw i c]
            have hs : s < 24 := by omega
            by_cases c20 : s = 20
            · rw [if_pos (show nI s = 20 by rw [c20]; rfl)]
              by_cases cw : lwT i = nI v
              · rw [if_pos cw, Ok_vl, Ok_vl, Ok_some, nI_1]
                exact Or.inl ⟨rfl, c, rfl, K3.sI (by omega), by rw [sI_i, if_neg (by omega)]; exact e3, by rw [sI_i, if_neg (by omega)]; exact w3, by rw [sI_i, if_neg (by omega)]; exact a3, i, by rw [sI_i, if_pos ⟨rfl, rfl⟩], by
                  rcases o3 with o | o
                  · omega
                  · exact Or.inr ⟨o.1, Or.inr ⟨c, cw⟩⟩⟩
              · rw [if_neg cw, Ok_vl, Ok_some, nI_1]
                exact Or.inl ⟨rfl, c, rfl, K3, e3, w3, a3, s, s3, by
                  rcases o3 with o | ⟨o, o | o⟩
                  · exact Or.inl o
                  · exact Or.inr ⟨‹_›, Or.inl ⟨o.1, fun w hw' => by
                      rcases Nat.lt_or_ge w i with z | z
                      · exact o.2 w z
                      · rw [show w = i by omega]; exact cw⟩⟩
                  · omega⟩
            · rw [if_neg (show ¬ nI s = 20 from fun z => c20 ((nI_eq (b := 20) (by omega) (by decide)).mp z)), Ok_vl, Ok_some, nI_1]
              exact Or.inl ⟨rfl, c, rfl, K3, e3, w3, a3, s, s3, by
                rcases o3 with o | ⟨o, o | o⟩
                · exact Or.inl o
                · exact absurd o.1 c20
                · exact Or.inr ⟨‹_›, Or.inr o⟩⟩
          · rw [if_pos (show 20 ≤ nI i from nI_le (a := 20) c (by omega)), Ok_some]
            rw [show i = 20 by omega] at o3
            exact Or.inr ⟨0, rfl, K3, e3, w3, a3, s, s3, o3⟩
        · rintro - ⟨x3, μ3⟩ h3
          exact Ok_some.mpr h3
      have fin : ∀ s0 : Nat, (s0 = 20 ∨ s0 = 23) → (s0 = 20 → L ≤ 6) → (s0 = 23 → 6 < L) → Ok (f_X9_cutWord_j124 31 31 (nI s0) μ2) (fun _ μ' => Kx AT BN μ μ' ∧ μ'.1 31 1 = nI p ∧ ∃ s v q, Run isL b N p q ∧ ((6 < q - p ∧ s = 23) ∨ (q - p ≤ 6 ∧ v = wvn (dg b p (q - p)) 6 ∧ ((s = 20 ∧ ∀ w, w < 20 → ¬ lwT w = nI v) ∨ (s < 20 ∧ lwT s = nI v)))) ∧ μ'.1 31 0 = nI s ∧ μ'.1 31 2 = nI v ∧ μ'.1 31 10 = nI q) := by
        intro s0 hs0 g1 g2
        refine (key s0 hs0).mono ?_
        rintro - μ3 ⟨K3, e3, w3, a3, s, s3, o3⟩
        refine ⟨K3, e3, s, v, q, hq, ?_, s3, w3, a3⟩
        rw [hL]
        rcases o3 with o | o
        · exact Or.inl ⟨g2 o.1, o.2⟩
        · exact Or.inr ⟨g1 o.1, h6 (g1 o.1), o.2⟩
      rcases Nat.lt_or_ge 6 L with c | c
      · rw [if_neg (show ¬ nI L ≤ 6 from nI_ge (a := 6) c (by omega))]
        exact fin 23 (Or.inr rfl) (fun z => by omega) (fun _ => c)
      · rw [if_pos (show nI L ≤ 6 from nI_le (b := 6) c (by decide))]
        exact fin 20 (Or.inl rfl) (fun _ => c) (fun z => by omega)
theorem imn_nI {a c : Nat} (ha : a < 2 ^ 31) (hc : c < 2 ^ 31) : imn (nI a) (nI c) = nI (min a c) := by
  unfold imn
  rcases Nat.lt_or_ge c a with h | h
  · rw [if_pos (nI_lt h ha), show min a c = c by omega]
  · rw [if_neg (nI_nlt h hc), show min a c = a by omega]
theorem nv_step {a c : Nat} (ha : a ≤ 1000000) (h : isD c) : imn ((nI a * 10 + nI c) - 48) 1000000 = nI (min (a * 10 + (c - 48)) 1000000) := by
  rw [show (10 : Int32) = nI 10 from rfl, nI_mul, nI_add, show a * 10 + c = (a * 10 + (c - 48)) + 48 by omega, show (48 : Int32) = nI 48 from rfl, nI_sub]
  exact imn_nI (c := 1000000) (by omega) (by decide)
theorem cnum {μ : fMem} {b : Nat → Nat} {N p : Nat} (H : CB μ b N) (hp : p < N) (ha : μ.1 31 10 = nI p) (h1 : μ.1 31 1 = nI p) (h2 : μ.1 31 2 = 0) : Ok (f_X9_cutNumber 31 μ) (fun _ μ' => Kx AT BN μ μ' ∧ μ'.1 31 1 = nI p ∧ ∃ q, Run isD b N p q ∧ μ'.1 31 0 = nI 21 ∧ μ'.1 31 2 = nI (nvn b p (q - p)) ∧ μ'.1 31 10 = nI q) := by
  have hN := H.2.1
  unfold f_X9_cutNumber
  rw [Ok_bd]
  refine Ok.mono (Q := fun _ (μ1 : fMem) => Kx AT BN μ μ1 ∧ μ1.1 31 1 = nI p ∧ ∃ q, Run isD b N p q ∧ μ1.1 31 10 = nI q ∧ μ1.1 31 2 = nI (nvn b p (q - p))) (Ok_lp (N - p) (fun i (μ1 : fMem) => Kx AT BN μ μ1 ∧ μ1.1 31 1 = nI p ∧ μ1.1 31 10 = nI (p + i) ∧ (∀ j, p ≤ j → j < p + i → isD (b j)) ∧ μ1.1 31 2 = nI (nvn b p i)) (by omega) ⟨Kx.rfl', h1, ha, fun j a c => by omega, by rw [h2]; rfl⟩ ?_) ?_
  · rintro i μ1 hi ⟨K1, e1, a1, r1, w1⟩
    have H1 := H.kx K1
    unfold f_X9_cutNumber_L0
    rw [H1.1, a1]
    rcases Nat.lt_or_ge (p + i) N with c | c
    · have hb := (H.2.2 _ c).1
      have eA : atB b N (p + i) = b (p + i) := if_pos c
      rw [if_neg (nI_ge c (by omega)), signAt_eq H1 (by omega), bd_some, eA, isDigit_eq (by omega), bd_some]
      by_cases hl : isD (b (p + i))
      · rw [if_pos hl, if_neg (by decide), a1, signAt_eq H1 (by omega), bd_some, eA, Ok_vl, Ok_vl, Ok_some, w1, nv_step (nvn_le b p i) hl]
        refine Or.inl ⟨rfl, by omega, (K1.sI (by omega)).sI (by omega), by rw [sI_i, if_neg (by omega), sI_i, if_neg (by omega)]; exact e1, ?_, fun j q w => ?_, ?_⟩
        · rw [sI_i, if_pos ⟨rfl, rfl⟩, sI_i, if_neg (by omega), a1, nI_1]; rfl
        · rcases Nat.lt_or_ge j (p + i) with z | z
          · exact r1 j q z
          · rw [show j = p + i by omega]; exact hl
        · rw [sI_i, if_neg (by omega), sI_i, if_pos ⟨rfl, rfl⟩]; rfl
      · rw [if_neg hl, if_pos rfl, Ok_some]
        exact Or.inr ⟨0, rfl, K1, e1, p + i, ⟨by omega, by omega, r1, fun _ => hl⟩, a1, by rw [w1, show p + i - p = i by omega]⟩
    · rw [if_pos (nI_le c (by omega)), Ok_some]
      exact Or.inr ⟨0, rfl, K1, e1, p + i, ⟨by omega, by omega, r1, fun z => by omega⟩, a1, by rw [w1, show p + i - p = i by omega]⟩
  · rintro - μ1 ⟨K1, e1, q, hq, a1, w1⟩
    dsimp only
    rw [Ok_vl, Ok_some]
    exact ⟨K1.sI (by omega), by rw [sI_i, if_neg (by omega)]; exact e1, q, hq, by rw [sI_i, if_pos ⟨rfl, rfl⟩]; rfl, by rw [sI_i, if_neg (by omega)]; exact w1, by rw [sI_i, if_neg (by omega)]; exact a1⟩
theorem cjoins {μ : fMem} {b : Nat → Nat} {N k : Nat} (H : CB μ b N) (hk : k ≤ N) (ha : μ.1 31 10 = nI k) {c : Nat} (hc : c < 2 ^ 31) : f_X9_joins 31 (nI c) μ = some (if atB b N k = c then (1, sI μ 31 10 (nI (k + 1))) else (0, μ)) := by
  have hA := atB_le H k
  unfold f_X9_joins
  rw [ha, signAt_eq H (by omega), bd_some]
  by_cases h : atB b N k = c
  · rw [if_pos (by rw [h]), vl, gd_t (Or.inr rfl), ha, nI_1, if_pos h]
  · rw [if_neg (fun z => h ((nI_eq (by omega) hc).mp z)), gd_t (Or.inl rfl), if_neg h]
theorem csign {μ : fMem} {b : Nat → Nat} {N p : Nat} (H : CB μ b N) (hp : p < N) (ha : μ.1 31 10 = nI p) {c : Nat} (hc : c ≤ 255) : Ok (f_X9_cutSign 31 (nI c) μ) (fun _ μ' => Kx AT BN μ μ' ∧ μ'.1 31 1 = μ.1 31 1 ∧ μ'.1 31 2 = μ.1 31 2 ∧ μ'.1 31 0 = nI (sgn c (atB b N (p + 1))).1 ∧ μ'.1 31 10 = nI (p + (sgn c (atB b N (p + 1))).2)) := by
  have hN := H.2.1
  unfold f_X9_cutSign
  rw [Ok_vl, ha, nI_1]
  have K1 : Kx AT BN μ (sI μ 31 10 (nI (p + 1))) := Kx.rfl'.sI (by omega)
  have H1 := H.kx K1
  have a1 : (sI μ 31 10 (nI (p + 1))).1 31 10 = nI (p + 1) := by rw [sI_i, if_pos ⟨rfl, rfl⟩]
  have e1 : (sI μ 31 10 (nI (p + 1))).1 31 1 = μ.1 31 1 := by rw [sI_i, if_neg (by omega)]
  have w1 : (sI μ 31 10 (nI (p + 1))).1 31 2 = μ.1 31 2 := by rw [sI_i, if_neg (by omega)]
  generalize sI μ 31 10 (nI (p + 1)) = μ1 at K1 H1 a1 e1 w1 ⊢
  have fin : ∀ (μ2 : fMem) (s l : Nat), Kx AT BN μ μ2 → μ2.1 31 1 = μ.1 31 1 → μ2.1 31 2 = μ.1 31 2 → μ2.1 31 10 = nI (p + l) → sgn c (atB b N (p + 1)) = (s, l) → Ok (vl (sI μ2 31 0 (nI s)) fun μ3 => some ((), μ3)) (fun _ μ' => Kx AT BN μ μ' ∧ μ'.1 31 1 = μ.1 31 1 ∧ μ'.1 31 2 = μ.1 31 2 ∧ μ'.1 31 0 = nI (sgn c (atB b N (p + 1))).1 ∧ μ'.1 31 10 = nI (p + (sgn c (atB b N (p + 1))).2)) := by
    intro μ2 s l K2 e2 w2 a2 hs
    rw [Ok_vl, Ok_some, hs]
    exact ⟨K2.sI (by omega), by rw [sI_i, if_neg (by omega)]; exact e2, by rw [sI_i, if_neg (by omega)]; exact w2, by rw [sI_i, if_pos ⟨rfl, rfl⟩], by rw [sI_i, if_neg (by omega)]; exact a2⟩
  have J := fun (x : Nat) (hx : x < 2 ^ 31) => cjoins H1 (show p + 1 ≤ N by omega) a1 hx
  have K2 : Kx AT BN μ (sI μ1 31 10 (nI (p + 2))) := K1.sI (by omega)
  have a2 : (sI μ1 31 10 (nI (p + 2))).1 31 10 = nI (p + 2) := by rw [sI_i, if_pos ⟨rfl, rfl⟩]
  have e2 : (sI μ1 31 10 (nI (p + 2))).1 31 1 = μ.1 31 1 := by rw [sI_i, if_neg (by omega)]; exact e1
  have w2 : (sI μ1 31 10 (nI (p + 2))).1 31 2 = μ.1 31 2 := by rw [sI_i, if_neg (by omega)]; exact w1
  by_cases o : c < 40 ∨ 62 < c
  · have n : ∀ k, 40 ≤ k → k ≤ 62 → ¬ nI c = nI k := fun k x y z => by
      have := (nI_eq (by omega) (by omega)).mp z
      omega
    rw [if_neg (show ¬ nI c = 40 from n 40 (by omega) (by omega)), if_neg (show ¬ nI c = 41 from n 41 (by omega) (by omega)), if_neg (show ¬ nI c = 42 from n 42 (by omega) (by omega)), if_neg (show ¬ nI c = 43 from n 43 (by omega) (by omega)), if_neg (show ¬ nI c = 44 from n 44 (by omega) (by omega)), if_neg (show ¬ nI c = 45 from n 45 (by omega) (by omega)), if_neg (show ¬ nI c = 46 from n 46 (by omega) (by omega)), if_neg (show ¬ nI c = 47 from n 47 (by omega) (by omega)), if_neg (show ¬ nI c = 48 from n 48 (by omega) (by omega)), if_neg (show ¬ nI c = 49 from n 49 (by omega) (by omega)), if_neg (show ¬ nI c = 50 from n 50 (by omega) (by omega)), if_neg (show ¬ nI c = 51 from n 51 (by omega) (by omega)), if_neg (show ¬ nI c = 52 from n 52 (by omega) (by omega)), if_neg (show ¬ nI c = 53 from n 53 (by omega) (by omega)), if_neg (show ¬ nI c = 54 from n 54 (by omega) (by omega)), if_neg (show ¬ nI c = 55 from n 55 (by omega) (by omega)), if_neg (show ¬ nI c = 56 from n 56 (by omega) (by omega)), if_neg (show ¬ nI c = 57 from n 57 (by omega) (by omega)), if_neg (show ¬ nI c = 58 from n 58 (by omega) (by omega)), if_neg (show ¬ nI c = 59 from n 59 (by omega) (by omega)), if_neg (show ¬ nI c = 60 from n 60 (by omega) (by omega)), if_neg (show ¬ nI c = 61 from n 61 (by omega) (by omega)), if_neg (show ¬ nI c = 62 from n 62 (by omega) (by omega))]
    refine fin μ1 23 1 K1 e1 w1 a1 ?_
    unfold sgn
    rw [if_neg (by omega), if_neg (by omega), if_neg (by omega), if_neg (by omega), if_neg (by omega), if_neg (by omega), if_neg (by omega), if_neg (by omega), if_neg (by omega), if_neg (by omega)]
  · have hc1 : 40 ≤ c := by omega
    have hc2 : c ≤ 62 := by omega
    clear o
    obtain ⟨m, rfl⟩ : ∃ m, c = 40 + m := ⟨c - 40, by omega⟩
    have hm : m < 23 := by omega
    match m, hm with
    | 0, _ => exact fin μ1 25 1 K1 e1 w1 a1 rfl
    | 1, _ => exact fin μ1 26 1 K1 e1 w1 a1 rfl
    | 2, _ => exact fin μ1 35 1 K1 e1 w1 a1 rfl
    | 3, _ => exact fin μ1 33 1 K1 e1 w1 a1 rfl
    | 4, _ => exact fin μ1 23 1 K1 e1 w1 a1 rfl
    | 5, _ => exact fin μ1 34 1 K1 e1 w1 a1 rfl
    | 6, _ => exact fin μ1 23 1 K1 e1 w1 a1 rfl
    | 7, _ => exact fin μ1 36 1 K1 e1 w1 a1 rfl
    | 8, _ => exact fin μ1 23 1 K1 e1 w1 a1 rfl
    | 9, _ => exact fin μ1 23 1 K1 e1 w1 a1 rfl
    | 10, _ => exact fin μ1 23 1 K1 e1 w1 a1 rfl
    | 11, _ => exact fin μ1 23 1 K1 e1 w1 a1 rfl
    | 12, _ => exact fin μ1 23 1 K1 e1 w1 a1 rfl
    | 13, _ => exact fin μ1 23 1 K1 e1 w1 a1 rfl
    | 14, _ => exact fin μ1 23 1 K1 e1 w1 a1 rfl
    | 15, _ => exact fin μ1 23 1 K1 e1 w1 a1 rfl
    | 16, _ => exact fin μ1 23 1 K1 e1 w1 a1 rfl
    | 17, _ => exact fin μ1 23 1 K1 e1 w1 a1 rfl
    | 18, _ => exact fin μ1 23 1 K1 e1 w1 a1 rfl
    | 19, _ => exact fin μ1 24 1 K1 e1 w1 a1 rfl
    | 20, _ =>
      rw [if_neg (show ¬ nI (40 + 20) = 40 by decide), if_neg (show ¬ nI (40 + 20) = 41 by decide), if_neg (show ¬ nI (40 + 20) = 42 by decide), if_neg (show ¬ nI (40 + 20) = 43 by decide), if_neg (show ¬ nI (40 + 20) = 44 by decide), if_neg (show ¬ nI (40 + 20) = 45 by decide), if_neg (show ¬ nI (40 + 20) = 46 by decide), if_neg (show ¬ nI (40 + 20) = 47 by decide), if_neg (show ¬ nI (40 + 20) = 48 by decide), if_neg (show ¬ nI (40 + 20) = 49 by decide), if_neg (show ¬ nI (40 + 20) = 50 by decide), if_neg (show ¬ nI (40 + 20) = 51 by decide), if_neg (show ¬ nI (40 + 20) = 52 by decide), if_neg (show ¬ nI (40 + 20) = 53 by decide), if_neg (show ¬ nI (40 + 20) = 54 by decide), if_neg (show ¬ nI (40 + 20) = 55 by decide), if_neg (show ¬ nI (40 + 20) = 56 by decide), if_neg (show ¬ nI (40 + 20) = 57 by decide), if_neg (show ¬ nI (40 + 20) = 58 by decide), if_neg (show ¬ nI (40 + 20) = 59 by decide), if_pos (show nI (40 + 20) = 60 by decide)]
      show Ok (bd (f_X9_joins 31 (nI 61) μ1) _) _
      rw [J 61 (by decide)]
      by_cases q : atB b N (p + 1) = 61
      · rw [if_pos q, bd_some]
        exact fin _ 28 2 K2 e2 w2 a2 (by rw [q]; rfl)
      · rw [if_neg q, bd_some]
        rw [if_pos rfl]
        show Ok (bd (f_X9_joins 31 (nI 62) μ1) _) _
        rw [J 62 (by decide)]
        by_cases q2 : atB b N (p + 1) = 62
        · rw [if_pos q2, bd_some]
          exact fin _ 30 2 K2 e2 w2 a2 (by rw [q2]; rfl)
        · rw [if_neg q2, bd_some]
          exact fin μ1 27 1 K1 e1 w1 a1 (by show (if _ = 61 then _ else if _ = 62 then _ else _) = _; rw [if_neg q, if_neg q2])
    | 21, _ => exact fin μ1 29 1 K1 e1 w1 a1 rfl
    | 22, _ =>
      rw [if_neg (show ¬ nI (40 + 22) = 40 by decide), if_neg (show ¬ nI (40 + 22) = 41 by decide), if_neg (show ¬ nI (40 + 22) = 42 by decide), if_neg (show ¬ nI (40 + 22) = 43 by decide), if_neg (show ¬ nI (40 + 22) = 44 by decide), if_neg (show ¬ nI (40 + 22) = 45 by decide), if_neg (show ¬ nI (40 + 22) = 46 by decide), if_neg (show ¬ nI (40 + 22) = 47 by decide), if_neg (show ¬ nI (40 + 22) = 48 by decide), if_neg (show ¬ nI (40 + 22) = 49 by decide), if_neg (show ¬ nI (40 + 22) = 50 by decide), if_neg (show ¬ nI (40 + 22) = 51 by decide), if_neg (show ¬ nI (40 + 22) = 52 by decide), if_neg (show ¬ nI (40 + 22) = 53 by decide), if_neg (show ¬ nI (40 + 22) = 54 by decide), if_neg (show ¬ nI (40 + 22) = 55 by decide), if_neg (show ¬ nI (40 + 22) = 56 by decide), if_neg (show ¬ nI (40 + 22) = 57 by decide), if_neg (show ¬ nI (40 + 22) = 58 by decide), if_neg (show ¬ nI (40 + 22) = 59 by decide), if_neg (show ¬ nI (40 + 22) = 60 by decide), if_neg (show ¬ nI (40 + 22) = 61 by decide), if_pos (show nI (40 + 22) = 62 by decide)]
      show Ok (bd (f_X9_joins 31 (nI 61) μ1) _) _
      rw [J 61 (by decide)]
      by_cases q : atB b N (p + 1) = 61
      · rw [if_pos q, bd_some]
        exact fin _ 31 2 K2 e2 w2 a2 (by rw [q]; rfl)
      · rw [if_neg q, bd_some]
        exact fin μ1 32 1 K1 e1 w1 a1 (by show (if _ = 61 then _ else _) = _; rw [if_neg q])
    | n + 23, h => exact absurd h (by omega)
theorem cutOne_spec {μ : fMem} {b : Nat → Nat} {N p : Nat} (H : CB μ b N) (hw : ∀ j, j < 20 → μ.1 32 j = lwT j) (hp : p ≤ N) (ha : μ.1 31 10 = nI p) : Ok (f_X9_cutOne 31 μ) (fun _ μ' => Kx AT BN μ μ' ∧ ∃ s pl v q, Tok b N p s pl v q ∧ μ'.1 31 0 = nI s ∧ μ'.1 31 1 = nI pl ∧ μ'.1 31 2 = nI v ∧ μ'.1 31 10 = nI q) := by
  have hN := H.2.1
  unfold f_X9_cutOne
  rw [Ok_bd]
  refine (cskip H hp ha).mono ?_
  rintro - μ1 ⟨K1, pl, hr, a1⟩
  dsimp only
  rw [Ok_vl, Ok_vl, a1]
  have K2 : Kx AT BN μ (sI (sI μ1 31 1 (nI pl)) 31 2 0) := (K1.sI (by omega)).sI (by omega)
  have a2 : (sI (sI μ1 31 1 (nI pl)) 31 2 0).1 31 10 = nI pl := by rw [sI_i, if_neg (by omega), sI_i, if_neg (by omega)]; exact a1
  have e2 : (sI (sI μ1 31 1 (nI pl)) 31 2 0).1 31 1 = nI pl := by rw [sI_i, if_neg (by omega), sI_i, if_pos ⟨rfl, rfl⟩]
  have w2 : (sI (sI μ1 31 1 (nI pl)) 31 2 0).1 31 2 = 0 := by rw [sI_i, if_pos ⟨rfl, rfl⟩]
  generalize sI (sI μ1 31 1 (nI pl)) 31 2 0 = μ2 at K2 a2 e2 w2 ⊢
  have H2 := H.kx K2
  have hpl := hr.2.1
  rw [a2, signAt_eq H2 (by omega), bd_some, a2, H2.1]
  rcases Nat.lt_or_ge pl N with c | c
  · have hb := (H.2.2 _ c).1
    rw [if_pos (nI_lt c (by omega)), show atB b N pl = b pl from if_pos c, isLetter_eq (by omega), bd_some]
    by_cases hl : isL (b pl)
    · rw [if_pos hl, if_neg (by decide), Ok_bd]
      refine (cword H2 (fun j hj => by rw [K2.2.1 32 j (by omega)]; exact hw j hj) c a2 e2 w2).mono ?_
      rintro - μ3 ⟨K3, e3, s, v, q, h1, h2, h3, h4, h5⟩
      rw [Ok_some]
      exact ⟨K2.trans K3, s, pl, v, q, ⟨hr, Or.inr (Or.inl ⟨c, hl, h1, h2⟩)⟩, h3, e3, h4, h5⟩
    · rw [if_neg hl, if_pos rfl, isDigit_eq (by omega), bd_some]
      by_cases hd : isD (b pl)
      · rw [if_pos hd, if_neg (by decide), Ok_bd]
        refine (cnum H2 c a2 e2 w2).mono ?_
        rintro - μ3 ⟨K3, e3, q, h1, h3, h4, h5⟩
        rw [Ok_some]
        exact ⟨K2.trans K3, 21, pl, _, q, ⟨hr, Or.inr (Or.inr (Or.inl ⟨c, hd, h1, rfl, rfl⟩))⟩, h3, e3, h4, h5⟩
      · rw [if_neg hd, if_pos rfl, Ok_bd]
        refine (csign H2 c a2 hb).mono ?_
        rintro - μ3 ⟨K3, e3, w3, h3, h5⟩
        rw [Ok_some]
        exact ⟨K2.trans K3, _, pl, 0, _, ⟨hr, Or.inr (Or.inr (Or.inr ⟨c, hl, hd, rfl, rfl⟩))⟩, h3, by rw [e3]; exact e2, by rw [w3, w2]; rfl, h5⟩
  · rw [if_neg (nI_nlt c (by omega)), Ok_vl, Ok_some]
    exact ⟨K2.sI (by omega), 22, pl, 0, N, ⟨hr, Or.inl ⟨by omega, rfl, rfl⟩⟩, by rw [sI_i, if_pos ⟨rfl, rfl⟩]; rfl, by rw [sI_i, if_neg (by omega)]; exact e2, by rw [sI_i, if_neg (by omega), w2]; rfl, by rw [sI_i, if_neg (by omega), a2, show pl = N by omega]⟩
