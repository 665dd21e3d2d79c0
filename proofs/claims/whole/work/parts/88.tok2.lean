/-! all tokens of a text, as the class keeps them -/
abbrev TQ : Type := Nat → Nat × Nat × Nat × Nat
/-- the tokens t 0 .. t K: sort, place, value, end -/
def Toks (b : Nat → Nat) (N : Nat) (t : TQ) (K : Nat) : Prop := K ≤ 700 ∧ (∀ k, k ≤ K → Tok b N (if k = 0 then 0 else (t (k - 1)).2.2.2) (t k).1 (t k).2.1 (t k).2.2.1 (t k).2.2.2) ∧ (∀ k, k < K → ¬ (t k).1 = 22) ∧ (t K).1 = 22
def CR (μ : fMem) (t : TQ) (K : Nat) : Prop := ∀ k, k ≤ K → μ.1 33 k = nI (t k).1 ∧ μ.1 34 k = nI (t k).2.1 ∧ μ.1 35 k = nI (t k).2.2.1
/-- the class looks at token k -/
def CT (μ : fMem) (t : TQ) (K k : Nat) : Prop := CR μ t K ∧ k ≤ K ∧ μ.1 31 7 = nI k ∧ μ.1 31 0 = nI (t k).1 ∧ μ.1 31 1 = nI (t k).2.1 ∧ μ.1 31 2 = nI (t k).2.2.1
theorem Tok.bound {b : Nat → Nat} {N p s pl v q : Nat} (h : Tok b N p s pl v q) : p ≤ pl ∧ pl ≤ N ∧ q ≤ N ∧ s ≤ 36 ∧ (¬ s = 22 → pl < q) ∧ pl ≤ q := by
  obtain ⟨hr, h⟩ := h
  have r1 := hr.1
  have r2 := hr.2.1
  rcases h with ⟨a, b, c⟩ | ⟨a, hl, ⟨g1, g2, g3, g4⟩, c⟩ | ⟨a, hl, ⟨g1, g2, g3, g4⟩, c⟩ | ⟨a, _, _, c, d⟩
  · omega
  · have : pl < q := Nat.lt_of_le_of_ne g1 (fun z => g4 (by omega) (by rw [← z]; exact hl))
    refine ⟨r1, r2, g2, ?_, fun _ => this, g1⟩
    omega
  · have : pl < q := Nat.lt_of_le_of_ne g1 (fun z => g4 (by omega) (by rw [← z]; exact hl))
    refine ⟨r1, r2, g2, ?_, fun _ => this, g1⟩
    omega
  · have h3 : (sgn (b pl) (atB b N (pl + 1))).1 ≤ 36 ∧ ((sgn (b pl) (atB b N (pl + 1))).2 = 1 ∨ ((sgn (b pl) (atB b N (pl + 1))).2 = 2 ∧ ¬ atB b N (pl + 1) = 0)) := by
      unfold sgn
      generalize atB b N (pl + 1) = n
      generalize b pl = c
      repeat' split
      all_goals (refine ⟨by decide, ?_⟩; first | exact Or.inl rfl | exact Or.inr ⟨rfl, by omega⟩)
    have h4 : (sgn (b pl) (atB b N (pl + 1))).2 = 2 → pl + 1 < N := by
      intro z
      rcases h3.2 with q | q
      · omega
      · refine Nat.not_le.mp fun y => q.2 ?_
        unfold atB
        rw [if_neg (by omega)]
    refine ⟨r1, r2, ?_, ?_, fun _ => ?_, ?_⟩
    · rcases h3.2 with q | q
      · omega
      · have := h4 q.1
        omega
    · omega
    · omega
    · omega
abbrev AX1 (k j : Nat) : Prop := (k = 31 ∧ (j = 0 ∨ j = 1 ∨ j = 2 ∨ j = 7)) 
theorem CT.of {μ μ' : fMem} {t : TQ} {K k : Nat} (H : CT μ t K k) (e1 : ∀ j, j ≤ 7 → μ'.1 31 j = μ.1 31 j) (e2 : ∀ c, 33 ≤ c → c ≤ 35 → μ'.1 c = μ.1 c) : CT μ' t K k := by
  obtain ⟨h1, h2, h3, h4, h5, h6⟩ := H
  refine ⟨fun k hk => ?_, h2, ?_, ?_, ?_, ?_⟩
  · rw [e2 33 (by omega) (by omega), e2 34 (by omega) (by omega), e2 35 (by omega) (by omega)]; exact h1 k hk
  · rw [e1 _ (by omega)]; exact h3
  · rw [e1 _ (by omega)]; exact h4
  · rw [e1 _ (by omega)]; exact h5
  · rw [e1 _ (by omega)]; exact h6
theorem next_at {μ : fMem} {t : TQ} {K k : Nat} (hC : CR μ t K) (hK : K ≤ 700) {z : Int32} (hz : z + 1 = nI k) (hlt : z < 700) (hk : k ≤ K) (h7 : μ.1 31 7 = z) : Ok (f_X9_next 31 μ) (fun _ μ' => Kx AX1 BN μ μ' ∧ CT μ' t K k) := by
  unfold f_X9_next
  rw [h7, if_pos (show z < 701 - 1 from hlt), Ok_vl, hz]
  simp only [Nat.reduceAdd]
  obtain ⟨c1, c2, c3⟩ := hC k hk
  have x : ixo (nI k) 701 := ixN (by omega) (by omega)
  have e : ∀ {m : fMem} {v : Int32}, (sI m 31 7 v).1 31 7 = v := by intro m v; rw [sI_i, if_pos ⟨rfl, rfl⟩]
  have e0 : ∀ {m : fMem} {j : Nat} {v : Int32}, ¬ j = 7 → (sI m 31 j v).1 31 7 = m.1 31 7 := by intro m j v h; rw [sI_i, if_neg (by omega)]
  have f : ∀ {m : fMem} {c i j : Nat} {v : Int32}, ¬ c = 31 → (sI m 31 j v).1 c i = m.1 c i := by intro m c i j v h; rw [sI_i, if_neg (by omega)]
  rw [e, gd_t x, Ok_vl, e0 (by omega), e, gd_t x, Ok_vl, e0 (by omega), e0 (by omega), e, gd_t x, Ok_vl, Ok_some, nI_clamp (by omega), f (by omega), f (by omega), f (by omega), f (by omega), f (by omega), f (by omega), c1, c2, c3]
  refine ⟨(((Kx.rfl'.sI (by omega)).sI (by omega)).sI (by omega)).sI (by omega), fun j hj => ?_, hk, ?_, ?_, ?_, ?_⟩
  · rw [f (by omega), f (by omega), f (by omega), f (by omega), f (by omega), f (by omega), f (by omega), f (by omega), f (by omega), f (by omega), f (by omega), f (by omega)]; exact hC j hj
  · rw [e0 (by omega), e0 (by omega), e0 (by omega), e]
  · rw [sI_i, if_neg (by omega), sI_i, if_neg (by omega), sI_i, if_pos ⟨rfl, rfl⟩]
  · rw [sI_i, if_neg (by omega), sI_i, if_pos ⟨rfl, rfl⟩]
  · rw [sI_i, if_pos ⟨rfl, rfl⟩]
theorem next_spec {μ : fMem} {t : TQ} {K k : Nat} (hK : K ≤ 700) (H : CT μ t K k) (hk : k < K) : Ok (f_X9_next 31 μ) (fun _ μ' => Kx AX1 BN μ μ' ∧ CT μ' t K (k + 1)) :=
  next_at H.1 hK (nI_1 k) (show nI k < 700 from nI_lt (b := 700) (by omega) (by decide)) hk H.2.2.1
abbrev AXC (k j : Nat) : Prop := (31 ≤ k ∧ k ≤ 36 ∧ ¬ k = 32)
theorem cut_spec {μ : fMem} {b : Nat → Nat} {N : Nat} (hN : N ≤ 700) (hb : ∀ j, j < N → b j ≤ 255 ∧ μ.1 1 j = nI (b j)) (hw : ∀ j, j < 20 → μ.1 32 j = lwT j) : Ok (f_X9_cut 31 1 (nI N) μ) (fun _ μ' => Kx AXC BN μ μ' ∧ ∃ t K, Toks b N t K ∧ CT μ' t K 0) := by
  have hk : kd 1 = (0, 700) := by decide
  unfold f_X9_cut
  simp only [Nat.reduceAdd, hk]
  rw [show Int32.ofNat 700 = nI 700 from rfl, show (700 : Int32) = nI 700 from rfl, imn_nI (by decide) (by decide), imn_nI (by omega) (by decide), show imx 0 (nI (min N (min 700 700))) = nI N from (imx_nI (a := 0) (by decide) (by omega)).trans (by rw [show max 0 (min N (min 700 700)) = N by omega]), Ok_vl]
  have e9 : (sI μ 31 9 (nI N)).1 31 9 = nI N := by rw [sI_i, if_pos ⟨rfl, rfl⟩]
  rw [e9]
  have cp : cpo 0 0 (nI N) 700 700 := by
    refine ⟨⟨by decide, by decide, nI_pos (by omega)⟩, ?_⟩
    rw [nI_clamp (show N < 2 ^ 31 by omega)]
    exact ⟨by show (0 + N) ≤ 700; omega, by show (0 + N) ≤ 700; omega⟩
  rw [gd_t cp, Ok_vl, Ok_vl, Ok_vl, Ok_bd]
  have K0 : Kx AXC BN μ (sI (sI (cpy (sI μ 31 9 (nI N)) 1 0 36 0 (nI N)) 31 10 0) 31 0 23) := by
    refine (Kx.sI (Kx.sI ?_ (by omega)) (by omega))
    have K1 : Kx AXC BN μ (sI μ 31 9 (nI N)) := Kx.rfl'.sI (by omega)
    exact ⟨K1.1, fun k j h => by rw [cpy_ne (by omega)]; exact K1.2.1 k j h, K1.2.2⟩
  have B0 : CB (sI (sI (cpy (sI μ 31 9 (nI N)) 1 0 36 0 (nI N)) 31 10 0) 31 0 23) b N := by
    refine ⟨?_, hN, fun j hj => ⟨(hb j hj).1, ?_⟩⟩
    · rw [sI_i, if_neg (by omega), sI_i, if_neg (by omega), cpy_ne (by omega)]; exact e9
    · rw [sI_i, if_neg (by omega), sI_i, if_neg (by omega)]
      rw [show (cpy (sI μ 31 9 (nI N)) 1 0 36 0 (nI N)).1 36 j = (sI μ 31 9 (nI N)).1 1 j from cpy_at hj (by omega), sI_i, if_neg (by omega)]
      exact (hb j hj).2
  have a0 : (sI (sI (cpy (sI μ 31 9 (nI N)) 1 0 36 0 (nI N)) 31 10 0) 31 0 23).1 31 10 = nI 0 := by rw [sI_i, if_neg (by omega), sI_i, if_pos ⟨rfl, rfl⟩]; rfl
  have s0 : (sI (sI (cpy (sI μ 31 9 (nI N)) 1 0 36 0 (nI N)) 31 10 0) 31 0 23).1 31 0 = nI 23 := by rw [sI_i, if_pos ⟨rfl, rfl⟩]; rfl
  generalize sI (sI (cpy (sI μ 31 9 (nI N)) 1 0 36 0 (nI N)) 31 10 0) 31 0 23 = μ0 at K0 B0 a0 s0 ⊢
  refine Ok.mono (Q := fun _ (z : Int32 × fMem) => Kx AXC BN μ z.2 ∧ ∃ t K, Toks b N t K ∧ CR z.2 t K) (Ok_lp 701 (fun i (z : Int32 × fMem) => z.1 = nI i ∧ Kx AXC BN μ z.2 ∧ CB z.2 b N ∧ ∃ t : TQ, ∃ p s, i ≤ p + (if s = 22 then 1 else 0) ∧ p ≤ N ∧ s ≤ 36 ∧ z.2.1 31 10 = nI p ∧ z.2.1 31 0 = nI s ∧ (p = if i = 0 then 0 else (t (i - 1)).2.2.2) ∧ (0 < i → s = (t (i - 1)).1) ∧ (s = 22 → 0 < i) ∧ (∀ k, k < i → Tok b N (if k = 0 then 0 else (t (k - 1)).2.2.2) (t k).1 (t k).2.1 (t k).2.2.1 (t k).2.2.2) ∧ (∀ k, k + 1 < i → ¬ (t k).1 = 22) ∧ (∀ k, k < i → z.2.1 33 k = nI (t k).1 ∧ z.2.1 34 k = nI (t k).2.1 ∧ z.2.1 35 k = nI (t k).2.2.1)) (by decide) ⟨rfl, K0, B0, fun _ => (0, 0, 0, 0), 0, 23, by omega, by omega, by omega, a0, s0, rfl, fun z => by omega, fun z => by omega, fun k h => by omega, fun k h => by omega, fun k h => by omega⟩ ?_) ?_
  · rintro i ⟨x1, μ1⟩ hi ⟨hx, K1, B1, t, p, s, g1, g2, g3, a1, s1, g4, g5, g6, g7, g8, g9⟩
    dsimp only at hx K1 B1 a1 s1 g9 ⊢
    subst hx
    unfold f_X9_cut_L49
    simp only [Nat.reduceAdd]
    rw [s1]
    by_cases c22 : s = 22
    · have e22 : ∀ x y : Option (Nat × (Int32 × fMem)), (if nI s = 22 then x else y) = x := fun x y => if_pos (by rw [c22]; rfl)
      rw [e22, ite_self, Ok_some]
      have hi0 := g6 c22
      refine Or.inr ⟨0, rfl, K1, t, i - 1, ⟨?_, fun k h => g7 k (by omega), fun k h => g8 k (by omega), by rw [← g5 hi0]; exact c22⟩, fun k h => g9 k (by omega)⟩
      rw [if_pos c22] at g1
      omega
    · rw [if_neg c22] at g1
      rw [if_neg (show ¬ 701 ≤ nI i from nI_ge (b := 701) (by omega) (by decide)), if_neg (show ¬ nI s = 22 from fun z => c22 ((nI_eq (b := 22) (by omega) (by decide)).mp z)), Ok_bd]
      refine (cutOne_spec B1 (fun j hj => by rw [K1.2.1 32 j (by omega)]; exact hw j hj) g2 a1).mono ?_
      rintro - μ2 ⟨K2, s', pl, v, q, T, z1, z2, z3, z4⟩
      have hT := T.bound
      simp only [gd_t (show ixo (nI i) 701 from ixN (by omega) (by omega)), nI_clamp (show i < 2 ^ 31 by omega)]
      rw [Ok_vl, Ok_vl, Ok_vl, Ok_vl, Ok_some, nI_1]
      have f : ∀ {m : fMem} {c c' i j : Nat} {v : Int32}, ¬ c = c' → (sI m c' j v).1 c i = m.1 c i := by intro m c c' i j v h; rw [sI_i, if_neg (by omega)]
      have K12 : Kx AXC BN μ μ2 := K1.trans (K2.wide (fun k j h => by omega) (fun _ _ h => h))
      refine Or.inl ⟨rfl, by omega, rfl, ((K12.sI (by omega)).sI (by omega)).sI (by omega), ?_, fun k => if k = i then (s', pl, v, q) else t k, q, s', ?_, hT.2.2.1, hT.2.2.2.1, ?_, ?_, ?_, ?_, ?_, ?_, ?_, ?_⟩
      · have B2 := B1.kx K2
        exact ⟨by rw [f (by omega), f (by omega), f (by omega)]; exact B2.1, hN, fun j hj => ⟨(B2.2.2 j hj).1, by rw [f (by omega), f (by omega), f (by omega)]; exact (B2.2.2 j hj).2⟩⟩
      · by_cases y : s' = 22
        · rw [if_pos y]
          have := hT.2.2.2.2.2
          have := hT.1
          omega
        · rw [if_neg y]
          have := hT.2.2.2.2.1 y
          omega
      · rw [f (by omega), f (by omega), f (by omega)]; exact z4
      · rw [f (by omega), f (by omega), f (by omega)]; exact z1
      · dsimp only; rw [if_neg (by omega), show i + 1 - 1 = i by omega, if_pos rfl]
      · intro _; dsimp only; rw [show i + 1 - 1 = i by omega, if_pos rfl]
      · intro _; omega
      · intro k hk
        dsimp only
        rcases Nat.lt_or_ge k i with y | y
        · have := g7 k y
          rw [if_neg (show ¬ k = i by omega), if_neg (show ¬ k - 1 = i by omega)]
          exact this
        · have hki : k = i := by omega
          subst hki
          by_cases k0 : k = 0
          · rw [if_pos rfl, if_pos k0]
            rw [if_pos k0] at g4
            rw [← g4]; exact T
          · rw [if_pos rfl, if_neg k0, if_neg (show ¬ k - 1 = k by omega)]
            rw [if_neg k0] at g4
            rw [← g4]; exact T
      · intro k hk
        dsimp only
        rw [if_neg (show ¬ k = i by omega)]
        rcases Nat.lt_or_ge (k + 1) i with y | y
        · exact g8 k y
        · have := g5 (by omega)
          rw [show i - 1 = k by omega] at this
          rw [← this]
          exact c22
      · intro k hk
        dsimp only
        rcases Nat.lt_or_ge k i with y | y
        · rw [if_neg (show ¬ k = i by omega), sI_i, if_neg (by omega), sI_i, if_neg (by omega), sI_i, if_neg (by omega), sI_i, if_neg (by omega), sI_i, if_neg (by omega), sI_i, if_neg (by omega), sI_i, if_neg (by omega), sI_i, if_neg (by omega), sI_i, if_neg (by omega), K2.2.1 33 k (by omega), K2.2.1 34 k (by omega), K2.2.1 35 k (by omega)]
          exact g9 k y
        · have hki : k = i := by omega
          subst hki
          rw [if_pos rfl]
          refine ⟨?_, ?_, ?_⟩
          · rw [f (by omega), f (by omega), sI_i, if_pos ⟨rfl, rfl⟩]; exact z1
          · rw [f (by omega), sI_i, if_pos ⟨rfl, rfl⟩, f (by omega)]; exact z2
          · rw [sI_i, if_pos ⟨rfl, rfl⟩, f (by omega), f (by omega)]; exact z3
  · rintro - ⟨x1, μ1⟩ ⟨K1, t, K, hT, hC⟩
    dsimp only at K1 hC ⊢
    rw [Ok_vl, Ok_bd]
    refine (next_at (k := 0) (t := t) (K := K) (z := -1) (fun k hk => ?_) hT.1 (by decide) (by decide) (by omega) (by rw [sI_i, if_pos ⟨rfl, rfl⟩])).mono ?_
    · rw [sI_i, if_neg (by omega), sI_i, if_neg (by omega), sI_i, if_neg (by omega)]; exact hC k hk
    · rintro - μ2 ⟨K2, c2⟩
      rw [Ok_some]
      exact ⟨(K1.sI (by omega)).trans (K2.wide (fun k j h => by omega) (fun _ _ h => h)), t, K, hT, c2⟩
