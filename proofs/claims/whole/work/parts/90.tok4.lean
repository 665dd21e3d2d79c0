/-! the reference's token -/
theorem mnum {μ : fMem} {b : Nat → Nat} {N p : Nat} (H : CBM μ b N) (hp : p < N) (ha : μ.1 181 24 = nI p) (h2 : μ.1 181 27 = 0) : Ok (lpn (fun (q : fMem) => f_X11_token_L162 181 q) fuel μ) (fun _ μ' => Kx (fun k j => k = 181 ∧ (j = 24 ∨ j = 27)) BN μ μ' ∧ ∃ q u, Run isD b N p q ∧ μ'.1 181 24 = nI q ∧ μ'.1 181 27 = nI u ∧ u ≤ 1000000 ∧ (u = nvn b p (q - p) ∨ (99999 < u ∧ 99999 < nvn b p (q - p)))) := by
  have hN := H.2.1
  refine Ok_lp (N - p) (fun i (μ1 : fMem) => Kx (fun k j => k = 181 ∧ (j = 24 ∨ j = 27)) BN μ μ1 ∧ μ1.1 181 24 = nI (p + i) ∧ (∀ j, p ≤ j → j < p + i → isD (b j)) ∧ ∃ u, μ1.1 181 27 = nI u ∧ u ≤ 1000000 ∧ (u = nvn b p i ∨ (99999 < u ∧ 99999 < nvn b p i))) (by omega) ⟨Kx.rfl', ha, fun j a c => by omega, 0, by rw [h2]; rfl, by omega, Or.inl rfl⟩ ?_
  rintro i μ1 hi ⟨K1, a1, r1, u, w1, hu, hv⟩
  have H1 : CBM μ1 b N := H.kx (K1.wide (fun k j h => by omega) (fun _ _ h => h))
  have e1 := here_eq H1 a1 (by omega)
  unfold f_X11_token_L162 f_X11_token_j204
  rw [e1, bd_some]
  rcases Nat.lt_or_ge (p + i) N with c | c
  · have hb := (H.2.2 _ c).1
    rw [show hereV b N (p + i) = nI (b (p + i)) from if_pos c, isDigitM_eq (by omega), bd_some]
    by_cases hl : isD (b (p + i))
    · rw [if_pos hl, if_neg (by decide), w1]
      have key : ∀ v : Nat, v ≤ 1000000 → (v = nvn b p (i + 1) ∨ (99999 < v ∧ 99999 < nvn b p (i + 1))) → Ok (vl (sI μ1 181 27 (nI v)) fun μ42 => vl (sI μ42 181 24 (μ42.1 181 24 + 1)) fun μ43 => some (0, μ43)) (fun t s' => (t = 0 ∧ i < N - p ∧ (Kx (fun k j => k = 181 ∧ (j = 24 ∨ j = 27)) BN μ s' ∧ s'.1 181 24 = nI (p + (i + 1)) ∧ (∀ j, p ≤ j → j < p + (i + 1) → isD (b j)) ∧ ∃ u, s'.1 181 27 = nI u ∧ u ≤ 1000000 ∧ (u = nvn b p (i + 1) ∨ (99999 < u ∧ 99999 < nvn b p (i + 1))))) ∨ ∃ u, t = u + 1 ∧ (Kx (fun k j => k = 181 ∧ (j = 24 ∨ j = 27)) BN μ s' ∧ ∃ q u, Run isD b N p q ∧ s'.1 181 24 = nI q ∧ s'.1 181 27 = nI u ∧ u ≤ 1000000 ∧ (u = nvn b p (q - p) ∨ (99999 < u ∧ 99999 < nvn b p (q - p))))) := by
        intro v hv1 hv2
        rw [Ok_vl, Ok_vl, Ok_some]
        refine Or.inl ⟨rfl, by omega, (K1.sI (by omega)).sI (by omega), ?_, fun j q w => ?_, v, ?_, hv1, hv2⟩
        · rw [sI_i, if_pos ⟨rfl, rfl⟩, sI_i, if_neg (by omega), a1, nI_1]; rfl
        · rcases Nat.lt_or_ge j (p + i) with z | z
          · exact r1 j q z
          · rw [show j = p + i by omega]; exact hl
        · rw [sI_i, if_neg (by omega), sI_i, if_pos ⟨rfl, rfl⟩]
      have es : nvn b p (i + 1) = min (nvn b p i * 10 + (b (p + i) - 48)) 1000000 := rfl
      rcases Nat.lt_or_ge 99999 u with z | z
      · rw [if_neg (show ¬ nI u ≤ 99999 from nI_ge (a := 99999) z (by omega))]
        exact key u hu (Or.inr ⟨z, by rw [es]; omega⟩)
      · rw [if_pos (show nI u ≤ 99999 from nI_le (b := 99999) z (by decide)), e1, bd_some, show hereV b N (p + i) = nI (b (p + i)) from if_pos c, show (10 : Int32) * nI u + nI (b (p + i)) - 48 = nI (u * 10 + (b (p + i) - 48)) by rw [show (10 : Int32) = nI 10 from rfl, nI_mul, nI_add, show 10 * u + b (p + i) = (u * 10 + (b (p + i) - 48)) + 48 by omega, show (48 : Int32) = nI 48 from rfl, nI_sub]]
        exact key _ (by omega) (Or.inl (by rw [es]; omega))
    · rw [if_neg hl, if_pos rfl, Ok_some]
      exact Or.inr ⟨0, rfl, K1, p + i, u, ⟨by omega, by omega, r1, fun _ => hl⟩, a1, w1, hu, by rw [show p + i - p = i by omega]; exact hv⟩
  · rw [show hereV b N (p + i) = -1 from if_neg (by omega), show f_X11_isDigit (-1) μ1 = some (0, μ1) from rfl, bd_some, if_pos rfl, Ok_some]
    exact Or.inr ⟨0, rfl, K1, p + i, u, ⟨by omega, by omega, r1, fun z => by omega⟩, a1, w1, hu, by rw [show p + i - p = i by omega]; exact hv⟩
theorem mlet {μ : fMem} {b : Nat → Nat} {N p : Nat} (H : CBM μ b N) (hp : p < N) (ha : μ.1 181 24 = nI p) : Ok (lpn (fun (q : fMem) => f_X11_token_L64 181 q) fuel μ) (fun _ μ' => Kx (fun k j => k = 181 ∧ j = 24) BN μ μ' ∧ ∃ q, Run isL b N p q ∧ μ'.1 181 24 = nI q) := by
  have hN := H.2.1
  refine Ok_lp (N - p) (fun i (μ1 : fMem) => Kx (fun k j => k = 181 ∧ j = 24) BN μ μ1 ∧ μ1.1 181 24 = nI (p + i) ∧ (∀ j, p ≤ j → j < p + i → isL (b j))) (by omega) ⟨Kx.rfl', ha, fun j a c => by omega⟩ ?_
  rintro i μ1 hi ⟨K1, a1, r1⟩
  have H1 : CBM μ1 b N := H.kx (K1.wide (fun k j h => by omega) (fun _ _ h => h))
  have e1 := here_eq H1 a1 (by omega)
  unfold f_X11_token_L64
  rw [e1, bd_some]
  rcases Nat.lt_or_ge (p + i) N with c | c
  · have hb := (H.2.2 _ c).1
    rw [show hereV b N (p + i) = nI (b (p + i)) from if_pos c, isSmall_eq (by omega), bd_some]
    by_cases hl : isL (b (p + i))
    · rw [if_pos hl, if_neg (by decide), Ok_vl, Ok_some, a1, nI_1]
      refine Or.inl ⟨rfl, by omega, K1.sI (by omega), by rw [sI_i, if_pos ⟨rfl, rfl⟩]; rfl, fun j q w => ?_⟩
      rcases Nat.lt_or_ge j (p + i) with z | z
      · exact r1 j q z
      · rw [show j = p + i by omega]; exact hl
    · rw [if_neg hl, if_pos rfl, Ok_some]
      exact Or.inr ⟨0, rfl, K1, p + i, ⟨by omega, by omega, r1, fun _ => hl⟩, a1⟩
  · rw [show hereV b N (p + i) = -1 from if_neg (by omega), show f_X11_isSmall (-1) μ1 = some (0, μ1) from rfl, bd_some, if_pos rfl, Ok_some]
    exact Or.inr ⟨0, rfl, K1, p + i, ⟨by omega, by omega, r1, fun z => by omega⟩, a1⟩
theorem msign {μ : fMem} {b : Nat → Nat} {N p : Nat} (H : CBM μ b N) (hp : p < N) (ha : μ.1 181 24 = nI p) {c : Nat} (hc : c ≤ 255) (v : Nat) : Ok (f_X11_sign 181 (nI c) μ) (fun _ μ' => Kx AM BN μ μ' ∧ μ'.1 181 25 = μ.1 181 25 ∧ μ'.1 181 24 = nI (p + (sgn c (atB b N (p + 1))).2) ∧ TV (sgn c (atB b N (p + 1))).1 v (μ'.1 181 26) (μ'.1 181 27)) := by
  have hN := H.2.1
  unfold f_X11_sign
  rw [Ok_vl, ha, nI_1]
  have K1 : Kx AM BN μ (sI μ 181 24 (nI (p + 1))) := Kx.rfl'.sI (by omega)
  have a1 : (sI μ 181 24 (nI (p + 1))).1 181 24 = nI (p + 1) := by rw [sI_i, if_pos ⟨rfl, rfl⟩]
  have e1 : (sI μ 181 24 (nI (p + 1))).1 181 25 = μ.1 181 25 := by rw [sI_i, if_neg (by omega)]
  generalize sI μ 181 24 (nI (p + 1)) = μ1 at K1 a1 e1 ⊢
  -- what is stored first
  have st : ∀ z : Int32, ∃ μ2, μ2 = sI (sI μ1 181 26 z) 181 27 (nI c) ∧ Kx AM BN μ μ2 ∧ μ2.1 181 24 = nI (p + 1) ∧ μ2.1 181 25 = μ.1 181 25 ∧ μ2.1 181 26 = z ∧ μ2.1 181 27 = nI c := by
    intro z
    refine ⟨_, rfl, (K1.sI (by omega)).sI (by omega), ?_, ?_, ?_, ?_⟩
    · rw [sI_i, if_neg (by omega), sI_i, if_neg (by omega)]; exact a1
    · rw [sI_i, if_neg (by omega), sI_i, if_neg (by omega)]; exact e1
    · rw [sI_i, if_neg (by omega), sI_i, if_pos ⟨rfl, rfl⟩]
    · rw [sI_i, if_pos ⟨rfl, rfl⟩]
  have Q1 : ∀ (μ2 : fMem) (w : Nat) (s l : Nat), sgn c (atB b N (p + 1)) = (s, l) → Kx AM BN μ μ2 → μ2.1 181 24 = nI (p + 1) → μ2.1 181 25 = μ.1 181 25 → μ2.1 181 27 = nI w → w < 300 → (l = if w < 256 then 1 else 2) → TV s v (μ2.1 181 26) (nI w) → Ok (f_X11_sign_j150 181 μ2) (fun _ μ' => Kx AM BN μ μ' ∧ μ'.1 181 25 = μ.1 181 25 ∧ μ'.1 181 24 = nI (p + (sgn c (atB b N (p + 1))).2) ∧ TV (sgn c (atB b N (p + 1))).1 v (μ'.1 181 26) (μ'.1 181 27)) := by
    intro μ2 w s l hs K2 a2 e2 w2 hw hl hT
    unfold f_X11_sign_j150
    rw [hs, w2]
    by_cases z : w < 256
    · rw [if_pos z] at hl
      rw [if_pos (show nI w < 256 from nI_lt (b := 256) z (by decide)), Ok_some, hl]
      exact ⟨K2, e2, a2, by rw [w2]; exact hT⟩
    · rw [if_neg z] at hl
      rw [if_neg (show ¬ nI w < 256 from nI_nlt (b := 256) (by omega) (by omega)), Ok_vl, Ok_some, hl, a2, nI_1]
      exact ⟨K2.sI (by omega), by rw [sI_i, if_neg (by omega)]; exact e2, by rw [sI_i, if_pos ⟨rfl, rfl⟩]; rfl, by rw [sI_i, if_neg (by omega), sI_i, if_neg (by omega), w2]; exact hT⟩
  have hA := fun (x : Nat) (h0 : 0 < x) (h1 : x < 2 ^ 31) => hereV_at (b := b) (N := N) (k := p + 1) (c := x) (fun z => (H.2.2 _ z).1) h0 h1
  by_cases c60 : c = 60
  · subst c60
    obtain ⟨μ2, d2, K2, a2, e2, s2, w2⟩ := st 3
    have H2 := H.kx K2
    rw [if_neg (by decide), if_neg (by decide), if_neg (by decide), if_neg (by decide), if_neg (by decide), if_neg (by decide), if_neg (by decide), if_pos (by decide)]
    unfold f_X11_sign_j71 f_X11_sign_j76
    rw [Ok_vl, Ok_vl, ← d2, if_pos (by decide), here_eq H2 a2 (by omega), bd_some]
    have p27 : ∀ (x : Int32) , ∃ μ3, μ3 = sI μ2 181 27 x ∧ Kx AM BN μ μ3 ∧ μ3.1 181 24 = nI (p + 1) ∧ μ3.1 181 25 = μ.1 181 25 ∧ μ3.1 181 26 = 3 ∧ μ3.1 181 27 = x := by
      intro x
      refine ⟨_, rfl, K2.sI (by omega), ?_, ?_, ?_, ?_⟩
      · rw [sI_i, if_neg (by omega)]; exact a2
      · rw [sI_i, if_neg (by omega)]; exact e2
      · rw [sI_i, if_neg (by omega)]; exact s2
      · rw [sI_i, if_pos ⟨rfl, rfl⟩]
    have j128 : ∀ μ3, f_X11_sign_j128 181 (nI 60) μ3 = f_X11_sign_j150 181 μ3 := fun μ3 => if_neg (by decide)
    by_cases q : atB b N (p + 1) = 61
    · obtain ⟨μ3, d3, K3, a3, e3, s3, w3⟩ := p27 256
      have hv : hereV b N (p + 1) = 61 := (hA 61 (by decide) (by decide)).mpr q
      rw [hv, if_pos rfl, Ok_vl, ← d3]
      unfold f_X11_sign_j106
      rw [if_pos (by decide), here_eq (H.kx K3) a3 (by omega), bd_some, hv, if_neg (by decide), j128]
      exact Q1 μ3 256 28 2 (by rw [q]; rfl) K3 a3 e3 w3 (by decide) rfl (by rw [s3]; exact Or.inr (Or.inr (Or.inr (Or.inr (Or.inr ⟨by decide, by decide, rfl, rfl⟩)))))
    · rw [if_neg (show ¬ hereV b N (p + 1) = 61 from fun z => q ((hA 61 (by decide) (by decide)).mp z))]
      unfold f_X11_sign_j106
      rw [if_pos (by decide), here_eq H2 a2 (by omega), bd_some]
      by_cases q2 : atB b N (p + 1) = 62
      · obtain ⟨μ3, d3, K3, a3, e3, s3, w3⟩ := p27 257
        rw [if_pos (show hereV b N (p + 1) = 62 from (hA 62 (by decide) (by decide)).mpr q2), Ok_vl, ← d3, j128]
        exact Q1 μ3 257 30 2 (by rw [q2]; rfl) K3 a3 e3 w3 (by decide) rfl (by rw [s3]; exact Or.inr (Or.inr (Or.inr (Or.inr (Or.inr ⟨by decide, by decide, rfl, rfl⟩)))))
      · rw [if_neg (show ¬ hereV b N (p + 1) = 62 from fun z => q2 ((hA 62 (by decide) (by decide)).mp z)), j128]
        exact Q1 μ2 60 27 1 (by show (if _ = 61 then _ else if _ = 62 then _ else _) = _; rw [if_neg q, if_neg q2]) K2 a2 e2 w2 (by decide) rfl (by rw [s2]; exact Or.inr (Or.inr (Or.inr (Or.inr (Or.inr ⟨by decide, by decide, rfl, rfl⟩)))))
  · have n60 : ¬ nI c = 60 := fun z => c60 ((nI_eq (b := 60) (by omega) (by decide)).mp z)
    by_cases c62 : c = 62
    · subst c62
      obtain ⟨μ2, d2, K2, a2, e2, s2, w2⟩ := st 3
      have H2 := H.kx K2
      rw [if_neg (by decide), if_neg (by decide), if_neg (by decide), if_neg (by decide), if_neg (by decide), if_neg (by decide), if_neg (by decide), if_neg (by decide), if_neg (by decide), if_pos (by decide)]
      unfold f_X11_sign_j71 f_X11_sign_j76
      rw [Ok_vl, Ok_vl, ← d2, if_neg (by decide)]
      unfold f_X11_sign_j106
      rw [if_neg (by decide)]
      unfold f_X11_sign_j128
      rw [if_pos (by decide), here_eq H2 a2 (by omega), bd_some]
      by_cases q : atB b N (p + 1) = 61
      · rw [if_pos (show hereV b N (p + 1) = 61 from (hA 61 (by decide) (by decide)).mpr q), Ok_vl]
        refine Q1 _ 258 31 2 (by rw [q]; rfl) (K2.sI (by omega)) ?_ ?_ ?_ (by decide) rfl ?_
        · rw [sI_i, if_neg (by omega)]; exact a2
        · rw [sI_i, if_neg (by omega)]; exact e2
        · rw [sI_i, if_pos ⟨rfl, rfl⟩]; rfl
        · rw [sI_i, if_neg (by omega), s2]; exact Or.inr (Or.inr (Or.inr (Or.inr (Or.inr ⟨by decide, by decide, rfl, rfl⟩))))
      · rw [if_neg (show ¬ hereV b N (p + 1) = 61 from fun z => q ((hA 61 (by decide) (by decide)).mp z))]
        exact Q1 μ2 62 32 1 (by show (if _ = 61 then _ else _) = _; rw [if_neg q]) K2 a2 e2 w2 (by decide) rfl (by rw [s2]; exact Or.inr (Or.inr (Or.inr (Or.inr (Or.inr ⟨by decide, by decide, rfl, rfl⟩)))))
    · have n62 : ¬ nI c = 62 := fun z => c62 ((nI_eq (b := 62) (by omega) (by decide)).mp z)
      have J : ∀ (z : Int32) (s : Nat), sgn c (atB b N (p + 1)) = (s, 1) → TV s v z (nI c) → Ok (f_X11_sign_j76 181 (nI c) 181 z μ1) (fun _ μ' => Kx AM BN μ μ' ∧ μ'.1 181 25 = μ.1 181 25 ∧ μ'.1 181 24 = nI (p + (sgn c (atB b N (p + 1))).2) ∧ TV (sgn c (atB b N (p + 1))).1 v (μ'.1 181 26) (μ'.1 181 27)) := by
        intro z s hs hT
        obtain ⟨μ2, d2, K2, a2, e2, s2, w2⟩ := st z
        unfold f_X11_sign_j76
        rw [Ok_vl, Ok_vl, ← d2, if_neg n60]
        unfold f_X11_sign_j106
        rw [if_neg n60]
        unfold f_X11_sign_j128
        rw [if_neg n62]
        exact Q1 μ2 c s 1 hs K2 a2 e2 w2 (by omega) (by rw [if_pos (by omega)]) (by rw [s2]; exact hT)
      have ne : ∀ x : Nat, x < 256 → ¬ c = x → ¬ nI c = nI x := fun x hx h z => h ((nI_eq (by omega) (by omega)).mp z)
      have T3 : ∀ s, 24 ≤ s → s ≤ 36 → sgc s = c → TV s v 3 (nI c) := fun s x y z => Or.inr (Or.inr (Or.inr (Or.inr (Or.inr ⟨x, y, rfl, by rw [z]⟩))))
      by_cases k59 : c = 59
      · subst k59; rw [if_pos (by decide)]; exact J 3 24 rfl (T3 24 (by decide) (by decide) rfl)
      rw [if_neg (show ¬ nI c = 59 from ne 59 (by decide) k59)]
      by_cases k40 : c = 40
      · subst k40; rw [if_pos (by decide)]; exact J 3 25 rfl (T3 25 (by decide) (by decide) rfl)
      rw [if_neg (show ¬ nI c = 40 from ne 40 (by decide) k40)]
      by_cases k41 : c = 41
      · subst k41; rw [if_pos (by decide)]; exact J 3 26 rfl (T3 26 (by decide) (by decide) rfl)
      rw [if_neg (show ¬ nI c = 41 from ne 41 (by decide) k41)]
      by_cases k43 : c = 43
      · subst k43; rw [if_pos (by decide)]; exact J 3 33 rfl (T3 33 (by decide) (by decide) rfl)
      rw [if_neg (show ¬ nI c = 43 from ne 43 (by decide) k43)]
      by_cases k45 : c = 45
      · subst k45; rw [if_pos (by decide)]; exact J 3 34 rfl (T3 34 (by decide) (by decide) rfl)
      rw [if_neg (show ¬ nI c = 45 from ne 45 (by decide) k45)]
      by_cases k42 : c = 42
      · subst k42; rw [if_pos (by decide)]; exact J 3 35 rfl (T3 35 (by decide) (by decide) rfl)
      rw [if_neg (show ¬ nI c = 42 from ne 42 (by decide) k42)]
      by_cases k47 : c = 47
      · subst k47; rw [if_pos (by decide)]; exact J 3 36 rfl (T3 36 (by decide) (by decide) rfl)
      rw [if_neg (show ¬ nI c = 47 from ne 47 (by decide) k47), if_neg n60]
      by_cases k61 : c = 61
      · subst k61; rw [if_pos (by decide)]; exact J 3 29 rfl (T3 29 (by decide) (by decide) rfl)
      rw [if_neg (show ¬ nI c = 61 from ne 61 (by decide) k61), if_neg n62]
      refine J 5 23 ?_ (Or.inr (Or.inr (Or.inr (Or.inr (Or.inl ⟨rfl, rfl⟩)))))
      unfold sgn
      rw [if_neg k40, if_neg k41, if_neg k42, if_neg k43, if_neg k45, if_neg k47, if_neg k59, if_neg c60, if_neg k61, if_neg c62]
theorem token_spec {μ : fMem} {b : Nat → Nat} {N p s pl v q : Nat} (H : CBM μ b N) (hp : p ≤ N) (ha : μ.1 181 24 = nI p) (T : Tok b N p s pl v q) : Ok (f_X11_token 181 μ) (fun _ μ' => Kx AM BN μ μ' ∧ μ'.1 181 24 = nI q ∧ μ'.1 181 25 = nI pl ∧ TV s v (μ'.1 181 26) (μ'.1 181 27)) := by
  have hN := H.2.1
  obtain ⟨hr, T⟩ := T
  unfold f_X11_token
  rw [Ok_bd]
  refine (mskip H hp ha).mono ?_
  rintro - μ1 ⟨K1, pl', hr', a1⟩
  have := hr'.uni hr
  subst this
  dsimp only
  rw [Ok_vl, a1]
  have K2 : Kx AM BN μ (sI μ1 181 25 (nI pl')) := K1.sI (by omega)
  have a2 : (sI μ1 181 25 (nI pl')).1 181 24 = nI pl' := by rw [sI_i, if_neg (by omega)]; exact a1
  have e2 : (sI μ1 181 25 (nI pl')).1 181 25 = nI pl' := by rw [sI_i, if_pos ⟨rfl, rfl⟩]
  generalize sI μ1 181 25 (nI pl') = μ2 at K2 a2 e2 ⊢
  have H2 := H.kx K2
  have hpl := hr.2.1
  rw [here_eq H2 a2 hpl, bd_some]
  rcases T with ⟨hpN, hs, hq⟩ | T
  · rw [show hereV b N pl' = -1 from if_neg (by omega), if_pos rfl, Ok_vl, Ok_some, hq]
    exact ⟨K2.sI (by omega), by rw [sI_i, if_neg (by omega), a2, hpN], by rw [sI_i, if_neg (by omega)]; exact e2, Or.inr (Or.inr (Or.inr (Or.inl ⟨hs, by rw [sI_i, if_pos ⟨rfl, rfl⟩]⟩)))⟩
  · have c : pl' < N := by rcases T with T | T | T <;> exact T.1
    have hb := (H.2.2 _ c).1
    rw [show hereV b N pl' = nI (b pl') from if_pos c, if_neg (nI_nm1 (by omega)), isSmall_eq (by omega), bd_some]
    rcases T with ⟨-, hl, hq, T⟩ | ⟨-, hd, hq, hs, hv⟩ | ⟨-, hl, hd, hs, hq⟩
    · rw [if_pos hl, if_neg (by decide), Ok_bd]
      refine (mlet H2 c a2).mono ?_
      rintro - μ3 ⟨K3, q', hq', a3⟩
      have := hq'.uni hq
      subst this
      have e3 : μ3.1 181 25 = nI pl' := by rw [K3.2.1 181 25 (by omega)]; exact e2
      have K03 : Kx AM BN μ μ3 := K2.trans (K3.wide (fun k j h => by omega) (fun _ _ h => h))
      have H3 := H.kx K03
      have hle := hq.1
      have hle2 := hq.2.1
      rw [Ok_bd]
      refine (word_spec H3 hq a3 e3).mono ?_
      rintro r μ4 ⟨rfl, hw⟩
      rw [Ok_vl]
      have K4 : Kx AM BN μ (sI μ4 181 27 r) := K03.sI (by omega)
      have a4 : (sI μ4 181 27 r).1 181 24 = nI q' := by rw [sI_i, if_neg (by omega)]; exact a3
      have e4 : (sI μ4 181 27 r).1 181 25 = nI pl' := by rw [sI_i, if_neg (by omega)]; exact e3
      have w4 : (sI μ4 181 27 r).1 181 27 = r := by rw [sI_i, if_pos ⟨rfl, rfl⟩]
      generalize sI μ4 181 27 r = μ5 at K4 a4 e4 w4 ⊢
      rw [w4, a4, e4, show nI q' - nI pl' = nI (q' - pl') by rw [← nI_sub (q' - pl') pl', show q' - pl' + pl' = q' by omega]]
      have hLt : ∀ i, i < q' - pl' → isL (b (pl' + i)) := fun i hi => hq.2.2.1 _ (by omega) (by omega)
      have put : ∀ z : Int32, Kx AM BN μ (sI μ5 181 26 z) ∧ (sI μ5 181 26 z).1 181 24 = nI q' ∧ (sI μ5 181 26 z).1 181 25 = nI pl' ∧ (sI μ5 181 26 z).1 181 26 = z ∧ (sI μ5 181 26 z).1 181 27 = r := by
        intro z
        refine ⟨K4.sI (by omega), ?_, ?_, ?_, ?_⟩
        · rw [sI_i, if_neg (by omega)]; exact a4
        · rw [sI_i, if_neg (by omega)]; exact e4
        · rw [sI_i, if_pos ⟨rfl, rfl⟩]
        · rw [sI_i, if_neg (by omega)]; exact w4
      rcases hw with ⟨w, hw, hm, rfl⟩ | ⟨hn, rfl⟩
      · rw [if_neg (nI_nm1 (by omega))]
        unfold f_X11_token_j127
        obtain ⟨K6, a6, e6, s6, w6⟩ := put 0
        rw [Ok_vl, s6, if_neg (by decide), Ok_some]
        refine ⟨K6, a6, e6, ?_⟩
        rw [s6, w6]
        have h6 : q' - pl' ≤ 6 := by have := wt1 w hw; have := hm.1; omega
        rcases T with T | ⟨-, hv, T | T⟩
        · omega
        · exact absurd ((mt_iff hw h6 hLt).mpr hm) (by rw [← hv]; exact T.2 w hw)
        · refine Or.inl ⟨T.1, rfl, ?_⟩
          have m2 := (mt_iff T.1 h6 hLt).mp (by rw [← hv]; exact T.2)
          have inj : ∀ a, a < 20 → ∀ c, c < 20 → lwT a = lwT c → a = c := by decide +kernel
          rw [inj w hw s T.1 (by rw [T.2, hv]; exact (mt_iff hw h6 hLt).mpr hm)]
      · rw [if_pos rfl]
        rcases T with ⟨T6, hs⟩ | ⟨T6, hv, T | T⟩
        · rw [if_neg (show ¬ nI (q' - pl') ≤ 6 from nI_ge (a := 6) T6 (by omega))]
          unfold f_X11_token_j127
          obtain ⟨K6, a6, e6, s6, w6⟩ := put 5
          rw [Ok_vl, s6, if_neg (by decide), Ok_some]
          refine ⟨K6, a6, e6, ?_⟩
          rw [s6]
          exact Or.inr (Or.inr (Or.inr (Or.inr (Or.inl ⟨hs, rfl⟩))))
        · rw [if_pos (show nI (q' - pl') ≤ 6 from nI_le (b := 6) T6 (by decide))]
          unfold f_X11_token_j127
          obtain ⟨K6, a6, e6, s6, w6⟩ := put 1
          rw [Ok_vl, s6, if_pos rfl, Ok_bd]
          refine (name_spec (H.kx K6) hq a6 e6 T6).mono ?_
          rintro - μ7 rfl
          rw [Ok_some]
          refine ⟨K6.sI (by omega), ?_, ?_, ?_⟩
          · rw [sI_i, if_neg (by omega)]; exact a6
          · rw [sI_i, if_neg (by omega)]; exact e6
          · rw [sI_i, if_neg (by omega), s6, sI_i, if_pos ⟨rfl, rfl⟩, ← hv]
            exact Or.inr (Or.inl ⟨T.1, rfl, rfl⟩)
        · exact absurd ((mt_iff T.1 T6 hLt).mp (by rw [← hv]; exact T.2)) (hn s T.1)
    · rw [if_neg (show ¬ isL (b pl') by omega), if_pos rfl, isDigitM_eq (by omega), bd_some, if_pos hd, if_neg (by decide), Ok_vl, Ok_vl, Ok_bd]
      have K3 : Kx AM BN μ (sI (sI μ2 181 26 2) 181 27 0) := (K2.sI (by omega)).sI (by omega)
      refine (mnum (H.kx K3) c ?_ ?_).mono ?_
      · rw [sI_i, if_neg (by omega), sI_i, if_neg (by omega)]; exact a2
      · rw [sI_i, if_pos ⟨rfl, rfl⟩]
      · rintro - μ4 ⟨K4, q', u, hq', a4, w4, hu, hv'⟩
        have := hq'.uni hq
        subst this
        rw [Ok_some]
        refine ⟨K3.trans (K4.wide (fun k j h => by omega) (fun _ _ h => h)), a4, ?_, ?_⟩
        · rw [K4.2.1 181 25 (by omega), sI_i, if_neg (by omega), sI_i, if_neg (by omega)]; exact e2
        · rw [K4.2.1 181 26 (by omega), sI_i, if_neg (by omega), sI_i, if_pos ⟨rfl, rfl⟩, w4]
          exact Or.inr (Or.inr (Or.inl ⟨hs, rfl, u, rfl, hu, by rw [hv]; exact nvn_le _ _ _, by rw [hv]; exact hv'⟩))
    · rw [if_neg hl, if_pos rfl, isDigitM_eq (by omega), bd_some, if_neg hd, if_pos rfl, Ok_bd]
      refine (msign H2 c a2 hb v).mono ?_
      rintro - μ3 ⟨K3, e3, a3, t3⟩
      rw [Ok_some]
      exact ⟨K2.trans K3, by rw [hq]; exact a3, by rw [e3]; exact e2, by rw [hs]; exact t3⟩
/-- the reference looks at token k, without a fault's place -/
def MT (ν : fMem) (t : TQ) (k : Nat) : Prop := (ν.1 181 24 = nI (t k).2.2.2 ∧ ν.1 181 29 = -1) ∧ ν.1 181 25 = nI (t k).2.1 ∧ TV (t k).1 (t k).2.2.1 (ν.1 181 26) (ν.1 181 27)
theorem MT.of {ν ν' : fMem} {t : TQ} {k : Nat} (H : MT ν t k) (e : ∀ j, 24 ≤ j → (j ≤ 27 ∨ j = 29) → ν'.1 181 j = ν.1 181 j) : MT ν' t k := by
  unfold MT at H ⊢
  rw [e 24 (by omega) (by omega), e 25 (by omega) (by omega), e 26 (by omega) (by omega), e 27 (by omega) (by omega), e 29 (by omega) (by omega)]
  exact H
theorem token_0 {ν : fMem} {b : Nat → Nat} {N K : Nat} {t : TQ} (T : Toks b N t K) (H : CBM ν b N) (ha : ν.1 181 24 = 0) (h29 : ν.1 181 29 = -1) : Ok (f_X11_token 181 ν) (fun _ ν' => Kx AM BN ν ν' ∧ MT ν' t 0) := by
  have T0 := T.2.1 0 (by omega)
  rw [if_pos rfl] at T0
  exact (token_spec (p := 0) H (Nat.zero_le _) ha T0).mono fun _ ν' h => ⟨h.1, ⟨h.2.1, by rw [h.1.2.1 _ _ (by omega)]; exact h29⟩, h.2.2.1, h.2.2.2⟩
theorem token_n {ν : fMem} {b : Nat → Nat} {N K k : Nat} {t : TQ} (T : Toks b N t K) (H : CBM ν b N) (hm : MT ν t k) (hk : k < K) : Ok (f_X11_token 181 ν) (fun _ ν' => Kx AM BN ν ν' ∧ MT ν' t (k + 1)) := by
  have T0 := T.2.1 (k + 1) (by omega)
  have T1 := (T.2.1 k (by omega)).bound
  rw [if_neg (by omega), show k + 1 - 1 = k by omega] at T0
  exact (token_spec H T1.2.2.1 hm.1.1 T0).mono fun _ ν' h => ⟨h.1, ⟨h.2.1, by rw [h.1.2.1 _ _ (by omega)]; exact hm.1.2⟩, h.2.2.1, h.2.2.2⟩
