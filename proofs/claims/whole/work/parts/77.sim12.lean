/-! what taste one had -/
section Sim12
abbrev NT : Type := Nat × (Nat → Nat → Int32) × Int32
/-- struck, when c of the K known ones have been asked, from the last one on -/
def skN (f : Nat → Nat → Int32) (K : Nat) : Nat → Nat → Bool
  | 0 => fun _ => false
  | c + 1 => if skN f K c (K - 1 - c) = false ∧ ¬ f 4 (K - 1 - c) = -1 then (fun j => if nI j = f 4 (K - 1 - c) then true else skN f K c j) else skN f K c
def sk (f : Nat → Nat → Int32) (K : Nat) : Nat → Bool := skN f K K
def mxN (f : Nat → Nat → Int32) (s : Nat → Bool) : Nat → Nat
  | 0 => 0
  | k + 1 => if s k = false ∧ f 4 k = -1 then max (mxN f s k) (f 0 k).toNatClampNeg else mxN f s k
def soB (f : Nat → Nat → Int32) (s : Nat → Bool) (S : SV) (t k : Nat) : Bool := decide (s k = false ∧ f 4 k = -1 ∧ f 0 k = nI t → (if S 0 (f 1 k).toNatClampNeg = f 2 k then (1 : Int32) else 0) = f 3 k)
theorem allB_fail {p : Nat → Bool} {i : Nat} (hp : p i = false) : ∀ n, i < n → allB p n = false
  | 0, h => by omega
  | n + 1, h => by
    unfold allB
    by_cases q : i = n
    · subst q; rw [hp, Bool.and_false]
    · rw [allB_fail hp n (by omega), Bool.false_and]
theorem allB_step {p : Nat → Bool} {i : Nat} (h : allB p i = true) (hp : p i = true) : allB p (i + 1) = true := by unfold allB; rw [h, hp]; rfl
theorem bl_iff {b : Bool} : ((if b = true then (1 : Int32) else 0) = 0) ↔ b = false := by cases b <;> decide
theorem skN_succ (f : Nat → Nat → Int32) (K c : Nat) : skN f K (c + 1) = if skN f K c (K - 1 - c) = false ∧ ¬ f 4 (K - 1 - c) = -1 then (fun j => if nI j = f 4 (K - 1 - c) then true else skN f K c j) else skN f K c := rfl
theorem down_ix {K c : Nat} (h : c < K) (hK : K ≤ 24) : nI (K - c) - 1 = nI (K - 1 - c) ∧ nI (K - c) - 1 + (-1) = nI (K - (c + 1)) - 1 := by
  have e : K - c = (K - 1 - c) + 1 := by omega
  have e1 : nI (K - c) - 1 = nI (K - 1 - c) := by rw [e]; exact nI_pred _
  refine ⟨e1, ?_⟩
  rw [e1, show K - (c + 1) = K - 1 - c by omega]
  exact (Int32.sub_eq_add_neg _ _).symm
theorem strike_spec {μ : fMem} {V : HV} {N : NT} {K : Nat} (hN : NW V N) (H : CN μ N) (hK : knS N = nI K) (hK2 : K ≤ N.1) : Ok (f_X4_strike 123 μ) (fun _ μ' => Kp [129] [] μ μ' ∧ ∀ j, j < 24 → μ'.1 129 j = if sk N.2.1 K j = true then 1 else 0) := by
  have h24 := hN.1
  unfold f_X4_strike
  rw [Ok_bd]
  refine Ok.mono (Q := fun u (q : Int32 × fMem) => Kp [129] [] μ q.2 ∧ ∀ j, j < 24 → q.2.1 129 j = 0) (Ok_lp 24 (fun i (q : Int32 × fMem) => q.1 = nI i ∧ Kp [129] [] μ q.2 ∧ ∀ j, j < i → q.2.1 129 j = 0) (by omega) ⟨rfl, Kp.rfl', fun j hj => by omega⟩ ?_) ?_
  · rintro i ⟨z, μ1⟩ hi ⟨hz, K1, e1⟩
    dsimp only at hz K1 e1 ⊢
    subst hz
    unfold f_X4_strike_L2
    simp only [Nat.reduceAdd]
    rcases Nat.lt_or_ge i 24 with q | q
    · rw [if_neg (show ¬ 24 ≤ nI i from nI_ge (b := 24) q (by omega)), gd_t (ixN q (by omega)), nI_clamp (by omega), Ok_vl, Ok_vl, nI_1, Ok_some]
      refine Or.inl ⟨rfl, q, rfl, K1.sI (by simp), fun j hj => ?_⟩
      rw [sI_i]
      by_cases e : j = i
      · rw [if_pos ⟨rfl, e⟩]
      · rw [if_neg (fun w => e w.2)]; exact e1 j (by omega)
    · have : i = 24 := by omega
      subst this
      rw [if_pos (show 24 ≤ nI 24 by decide), Ok_some]
      exact Or.inr ⟨0, rfl, K1, e1⟩
  · rintro u ⟨z, μ1⟩ ⟨K1, e1⟩
    dsimp only at K1 e1 ⊢
    have H1 : CN μ1 N := H.of fun k a b => K1.2.1 k (by simp; omega)
    rw [knownBy_eq hN H1, bd_some, hK, Ok_vl, Ok_bd]
    refine Ok.mono (Q := fun u (q : Int32 × fMem) => Kp [129] [] μ q.2 ∧ ∀ j, j < 24 → q.2.1 129 j = if sk N.2.1 K j = true then 1 else 0) (Ok_lp K (fun c (q : Int32 × fMem) => q.1 = nI (K - c) - 1 ∧ Kp [129] [] μ q.2 ∧ ∀ j, j < 24 → q.2.1 129 j = if skN N.2.1 K c j = true then 1 else 0) (by omega) ⟨rfl, K1, fun j hj => by rw [e1 j hj]; rfl⟩ ?_) ?_
    · rintro c ⟨z, μ2⟩ hc ⟨hz, K2, e2⟩
      dsimp only at hz K2 e2 ⊢
      subst hz
      unfold f_X4_strike_L28
      simp only [Nat.reduceAdd]
      rcases Nat.lt_or_ge c K with q | q
      · obtain ⟨d1, d2⟩ := down_ix q (by omega)
        have hk : K - 1 - c < N.1 := by omega
        have h8 : μ2.1 128 (K - 1 - c) = N.2.1 4 (K - 1 - c) := by rw [K2.i (by simp)]; exact (H.2.2 _ hk).1
        have i24 : ixo (nI (K - 1 - c)) 24 := ixN (by omega) (by omega)
        rw [d2, d1]
        simp only [gd_t i24]
        rw [if_neg (nI_pos (by omega)), nI_clamp (by omega), Ok_vl, h8, e2 _ (by omega)]
        by_cases s1 : skN N.2.1 K c (K - 1 - c) = false
        · rw [if_pos (bl_iff.mpr s1)]
          rcases hN.2.2 _ hk with ⟨n1, -⟩ | ⟨j, hj, n1⟩
          · rw [n1, if_pos (by decide), Ok_vl, Ok_some]
            refine Or.inl ⟨rfl, q, rfl, K2, ?_⟩
            rw [skN_succ, if_neg (fun w => w.2 n1)]
            exact e2
          · rw [n1, if_neg (nI_pos (by omega)), if_neg (show ¬ 24 ≤ nI j from nI_ge (b := 24) (by omega) (by omega)), gd_t (ixN (by omega) (by omega)), nI_clamp (by omega), Ok_vl, Ok_vl, Ok_some]
            refine Or.inl ⟨rfl, q, rfl, K2.sI (by simp), fun i hi => ?_⟩
            rw [skN_succ, if_pos (show skN N.2.1 K c (K - 1 - c) = false ∧ ¬ N.2.1 4 (K - 1 - c) = -1 from ⟨s1, by rw [n1]; exact nI_nm1 (by omega)⟩), n1]
            dsimp only
            rw [sI_i]
            by_cases e : i = j
            · subst e; rw [if_pos ⟨rfl, rfl⟩, if_pos rfl, if_pos rfl]
            · rw [if_neg (fun w => e w.2), if_neg (fun w => e ((nI_eq (by omega) (by omega)).mp w))]; exact e2 i hi
        · rw [if_neg (fun w => s1 (bl_iff.mp w)), Ok_vl, Ok_some]
          refine Or.inl ⟨rfl, q, rfl, K2, ?_⟩
          rw [skN_succ, if_neg (fun w => s1 w.1)]
          exact e2
      · have : c = K := by omega
        subst this
        rw [Nat.sub_self, if_pos (show nI 0 - 1 < 0 by decide), Ok_some]
        exact Or.inr ⟨0, rfl, K2, e2⟩
    · rintro u ⟨z, μ2⟩ h
      exact Ok_some.mpr h
theorem outs_spec {ν : fMem} {V : HV} {N : NT} {K : Nat} (hN : NW V N) (H : MN ν N) (hK : knS N = nI K) (hK2 : K ≤ N.1) (v1 : Int32) {k : fMem → Option (Int32 × fMem)} {Q : Int32 → fMem → Prop} (go : ∀ ν', Kx (fun c _ => c = 220) BN ν ν' → (∀ j, j < K → ν'.1 220 j = if sk N.2.1 K j = true then 1 else 0) → Ok (k ν') Q) : Ok (bd (lpn (fun (q : Int32 × fMem) => f_X11_tastes_L19 181 v1 q.1 q.2) fuel ((0 : Int32), ν)) fun t13 q14 => (fun (x15 : Int32) (μ16 : fMem) => bd (f_X11_knownMany 181 μ16) fun r18 μ17 => vl (r18 - (1 : Int32)) fun x20 => bd (lpn (fun (q : Int32 × fMem) => f_X11_tastes_L47 181 v1 q.1 q.2) fuel (x20, μ17)) fun t32 q33 => (fun (x34 : Int32) (μ35 : fMem) => k μ35) q33.1 q33.2) q14.1 q14.2) Q := by
  have h24 := hN.1
  rw [Ok_bd]
  refine Ok.mono (Q := fun u (q : Int32 × fMem) => Kx (fun c _ => c = 220) BN ν q.2 ∧ ∀ j, j < K → q.2.1 220 j = 0) (Ok_lp K (fun i (q : Int32 × fMem) => q.1 = nI i ∧ Kx (fun c _ => c = 220) BN ν q.2 ∧ ∀ j, j < i → q.2.1 220 j = 0) (by omega) ⟨rfl, Kx.rfl', fun j hj => by omega⟩ ?_) ?_
  · rintro i ⟨z, ν1⟩ hi ⟨hz, K1, e1⟩
    dsimp only at hz K1 e1 ⊢
    subst hz
    unfold f_X11_tastes_L19
    simp only [Nat.reduceAdd]
    rw [knownMany_eq (H.of (fun j a b => K1.2.1 _ _ (by omega)) (fun c j a b => K1.2.1 _ _ (by omega))), bd_some, hK]
    rcases Nat.lt_or_ge i K with q | q
    · rw [if_neg (nI_ge q (by omega)), gd_t (ixN (by omega) (by omega)), nI_clamp (by omega), Ok_vl, Ok_vl, nI_1, Ok_some]
      refine Or.inl ⟨rfl, q, rfl, K1.sI rfl, fun j hj => ?_⟩
      rw [sI_i]
      by_cases e : j = i
      · rw [if_pos ⟨rfl, e⟩]
      · rw [if_neg (fun w => e w.2)]; exact e1 j (by omega)
    · rw [if_pos (nI_le q (by omega)), Ok_some]
      have : i = K := by omega
      subst this
      exact Or.inr ⟨0, rfl, K1, e1⟩
  · rintro u ⟨z, ν1⟩ ⟨K1, e1⟩
    dsimp only at K1 e1 ⊢
    rw [knownMany_eq (H.of (fun j a b => K1.2.1 _ _ (by omega)) (fun c j a b => K1.2.1 _ _ (by omega))), bd_some, hK, Ok_vl, Ok_bd]
    refine Ok.mono (Q := fun u (q : Int32 × fMem) => Kx (fun c _ => c = 220) BN ν q.2 ∧ ∀ j, j < K → q.2.1 220 j = if sk N.2.1 K j = true then 1 else 0) (Ok_lp K (fun c (q : Int32 × fMem) => q.1 = nI (K - c) - 1 ∧ Kx (fun c _ => c = 220) BN ν q.2 ∧ ∀ j, j < K → q.2.1 220 j = if skN N.2.1 K c j = true then 1 else 0) (by omega) ⟨rfl, K1, fun j hj => by rw [e1 j hj]; rfl⟩ ?_) ?_
    · rintro c ⟨z, ν2⟩ hc ⟨hz, K2, e2⟩
      dsimp only at hz K2 e2 ⊢
      subst hz
      unfold f_X11_tastes_L47
      simp only [Nat.reduceAdd]
      rcases Nat.lt_or_ge c K with q | q
      · obtain ⟨d1, d2⟩ := down_ix q (by omega)
        have hk : K - 1 - c < N.1 := by omega
        have h8 : ν2.1 219 (K - 1 - c) = N.2.1 4 (K - 1 - c) := by rw [K2.2.1 _ _ (by omega)]; exact (H.2.2 _ hk).1
        have i24 : ixo (nI (K - 1 - c)) 24 := ixN (by omega) (by omega)
        rw [d2, d1]
        simp only [gd_t i24]
        rw [if_neg (nI_pos (by omega)), nI_clamp (by omega), h8, e2 _ (by omega)]
        by_cases s1 : skN N.2.1 K c (K - 1 - c) = false
        · rw [if_pos (bl_iff.mpr s1)]
          rcases hN.2.2 _ hk with ⟨n1, -⟩ | ⟨j, hj, n1⟩
          · rw [n1, if_pos rfl, Ok_vl, Ok_some]
            refine Or.inl ⟨rfl, q, rfl, K2, ?_⟩
            rw [skN_succ, if_neg (fun w => w.2 n1)]
            exact e2
          · rw [n1, if_neg (nI_nm1 (by omega)), gd_t (ixN (by omega) (by omega)), nI_clamp (by omega), Ok_vl, Ok_vl, Ok_some]
            refine Or.inl ⟨rfl, q, rfl, K2.sI rfl, fun i hi => ?_⟩
            rw [skN_succ, if_pos (show skN N.2.1 K c (K - 1 - c) = false ∧ ¬ N.2.1 4 (K - 1 - c) = -1 from ⟨s1, by rw [n1]; exact nI_nm1 (by omega)⟩), n1]
            dsimp only
            rw [sI_i]
            by_cases e : i = j
            · subst e; rw [if_pos ⟨rfl, rfl⟩, if_pos rfl, if_pos rfl]
            · rw [if_neg (fun w => e w.2), if_neg (fun w => e ((nI_eq (by omega) (by omega)).mp w))]; exact e2 i hi
        · rw [if_neg (fun w => s1 (bl_iff.mp w)), Ok_vl, Ok_some]
          refine Or.inl ⟨rfl, q, rfl, K2, ?_⟩
          rw [skN_succ, if_neg (fun w => s1 w.1)]
          exact e2
      · have : c = K := by omega
        subst this
        rw [Nat.sub_self, if_pos (show nI 0 - 1 < 0 by decide), Ok_some]
        exact Or.inr ⟨0, rfl, K2, e2⟩
    · rintro u ⟨z, ν2⟩ ⟨K2, e2⟩
      exact go ν2 K2 e2
theorem mxN_le {V : HV} {N : NT} (hN : NW V N) (s : Nat → Bool) : ∀ k, k ≤ N.1 → mxN N.2.1 s k ≤ 30
  | 0, _ => by unfold mxN; omega
  | k + 1, h => by
    have ih := mxN_le hN s k (by omega)
    unfold mxN
    split
    · rename_i c
      rcases hN.2.2 k (by omega) with ⟨-, ⟨m, -, hm, e⟩, -⟩ | ⟨j, hj, e⟩
      · rw [e, nI_clamp (by omega)]; omega
      · have h24 := hN.1
        exact absurd (e.symm.trans c.2) (nI_nm1 (by omega))
    · exact ih
theorem lastC {μ : fMem} {V : HV} {N : NT} {K : Nat} (hN : NW V N) (H : CN μ N) (hK : knS N = nI K) (hK2 : K ≤ N.1) {s : Nat → Bool} (hs : ∀ j, j < 24 → μ.1 129 j = if s j = true then 1 else 0) (v1 v2 : Nat) : Ok (lpn (fun (q : Int32 × Int32 × fMem) => f_X4_holdOn_L5 123 v1 v2 q.1 q.2.1 q.2.2) fuel ((0 : Int32), (0 : Int32), μ)) (fun _ q => q.1 = nI (mxN N.2.1 s K) ∧ q.2.2 = μ) := by
  have h24 := hN.1
  refine Ok_lp K (fun i (q : Int32 × Int32 × fMem) => q.2.1 = nI i ∧ q.1 = nI (mxN N.2.1 s i) ∧ q.2.2 = μ) (by omega) ⟨rfl, rfl, rfl⟩ ?_
  rintro i ⟨b, z, μ1⟩ hi ⟨hz, hb, hm⟩
  dsimp only at hz hb hm ⊢
  subst hz hb hm
  unfold f_X4_holdOn_L5
  simp only [Nat.reduceAdd]
  rw [knownBy_eq hN H, bd_some, hK]
  rcases Nat.lt_or_ge i K with q | q
  · have hk : i < N.1 := by omega
    have i24 : ixo (nI i) 24 := ixN (by omega) (by omega)
    have un : mxN N.2.1 s (i + 1) = if s i = false ∧ N.2.1 4 i = -1 then max (mxN N.2.1 s i) (N.2.1 0 i).toNatClampNeg else mxN N.2.1 s i := rfl
    have mx := mxN_le hN s i (by omega)
    rw [if_neg (nI_ge q (by omega))]
    simp only [gd_t i24]
    rw [nI_clamp (by omega), hs i (by omega), (H.2.2 i hk).1]
    by_cases s1 : s i = false
    · rw [if_pos (bl_iff.mpr s1)]
      by_cases s2 : N.2.1 4 i = -1
      · obtain ⟨m, m1, m2, e⟩ : ∃ m, 1 ≤ m ∧ m ≤ 30 ∧ N.2.1 0 i = nI m := by
          rcases hN.2.2 i hk with ⟨-, h, -⟩ | ⟨j, hj, e⟩
          · exact h
          · exact absurd (e.symm.trans s2) (nI_nm1 (by omega))
        rw [if_pos s2, ((H.2.2 i hk).2 s2).1, Ok_vl, Ok_vl, nI_1, Ok_some]
        refine Or.inl ⟨rfl, q, rfl, ?_, rfl⟩
        rw [un, if_pos ⟨s1, s2⟩, e, nI_clamp (by omega)]
        exact imx_nI (by omega) (by omega)
      · rw [if_neg s2, Ok_vl, nI_1, Ok_some]
        refine Or.inl ⟨rfl, q, rfl, ?_, rfl⟩
        rw [un, if_neg (fun w => s2 w.2)]
    · rw [if_neg (fun w => s1 (bl_iff.mp w)), Ok_vl, nI_1, Ok_some]
      refine Or.inl ⟨rfl, q, rfl, ?_, rfl⟩
      rw [un, if_neg (fun w => s1 w.1)]
  · rw [if_pos (nI_le q (by omega)), Ok_some]
    have : i = K := by omega
    subst this
    exact Or.inr ⟨0, rfl, rfl, rfl⟩
theorem lastM {ν : fMem} {V : HV} {N : NT} {K : Nat} (hN : NW V N) (H : MN ν N) (hK : knS N = nI K) (hK2 : K ≤ N.1) {s : Nat → Bool} (hs : ∀ j, j < K → ν.1 220 j = if s j = true then 1 else 0) (v1 : Int32) : Ok (lpn (fun (q : Int32 × Int32 × fMem) => f_X11_tastes_L90 181 v1 q.1 q.2.1 q.2.2) fuel ((0 : Int32), (0 : Int32), ν)) (fun _ q => q.1 = nI (mxN N.2.1 s K) ∧ q.2.2 = ν) := by
  have h24 := hN.1
  refine Ok_lp K (fun i (q : Int32 × Int32 × fMem) => q.2.1 = nI i ∧ q.1 = nI (mxN N.2.1 s i) ∧ q.2.2 = ν) (by omega) ⟨rfl, rfl, rfl⟩ ?_
  rintro i ⟨b, z, ν1⟩ hi ⟨hz, hb, hm⟩
  dsimp only at hz hb hm ⊢
  subst hz hb hm
  unfold f_X11_tastes_L90
  simp only [Nat.reduceAdd]
  rw [knownMany_eq H, bd_some, hK]
  rcases Nat.lt_or_ge i K with q | q
  · have hk : i < N.1 := by omega
    have i24 : ixo (nI i) 24 := ixN (by omega) (by omega)
    have un : mxN N.2.1 s (i + 1) = if s i = false ∧ N.2.1 4 i = -1 then max (mxN N.2.1 s i) (N.2.1 0 i).toNatClampNeg else mxN N.2.1 s i := rfl
    have mx := mxN_le hN s i (by omega)
    rw [if_neg (nI_ge q (by omega))]
    simp only [gd_t i24]
    rw [nI_clamp (by omega), hs i q, (H.2.2 i hk).1]
    by_cases s1 : s i = false
    · rw [if_pos (bl_iff.mpr s1)]
      by_cases s2 : N.2.1 4 i = -1
      · obtain ⟨m, m1, m2, e⟩ : ∃ m, 1 ≤ m ∧ m ≤ 30 ∧ N.2.1 0 i = nI m := by
          rcases hN.2.2 i hk with ⟨-, h, -⟩ | ⟨j, hj, e⟩
          · exact h
          · exact absurd (e.symm.trans s2) (nI_nm1 (by omega))
        rw [if_pos s2, ((H.2.2 i hk).2 s2).1, Ok_vl, Ok_vl, nI_1, Ok_some]
        refine Or.inl ⟨rfl, q, rfl, ?_, rfl⟩
        rw [un, if_pos ⟨s1, s2⟩, e, nI_clamp (by omega)]
        exact imx_nI (by omega) (by omega)
      · rw [if_neg s2, Ok_vl, nI_1, Ok_some]
        refine Or.inl ⟨rfl, q, rfl, ?_, rfl⟩
        rw [un, if_neg (fun w => s2 w.2)]
    · rw [if_neg (fun w => s1 (bl_iff.mp w)), Ok_vl, nI_1, Ok_some]
      refine Or.inl ⟨rfl, q, rfl, ?_, rfl⟩
      rw [un, if_neg (fun w => s1 w.1)]
  · rw [if_pos (nI_le q (by omega)), Ok_some]
    have : i = K := by omega
    subst this
    exact Or.inr ⟨0, rfl, rfl, rfl⟩
theorem soB_t {f : Nat → Nat → Int32} {s : Nat → Bool} {S : SV} {t k : Nat} (h : ¬ (s k = false ∧ f 4 k = -1 ∧ f 0 k = nI t)) : soB f s S t k = true := decide_eq_true (fun w => absurd w h)
theorem soB_v {f : Nat → Nat → Int32} {s : Nat → Bool} {S : SV} {t k : Nat} (h : s k = false ∧ f 4 k = -1 ∧ f 0 k = nI t) : soB f s S t k = decide ((if S 0 (f 1 k).toNatClampNeg = f 2 k then (1 : Int32) else 0) = f 3 k) := by
  unfold soB
  by_cases c : (if S 0 (f 1 k).toNatClampNeg = f 2 k then (1 : Int32) else 0) = f 3 k
  · rw [decide_eq_true c, decide_eq_true (fun _ => c)]
  · rw [decide_eq_false c, decide_eq_false (fun w => c (w h))]
theorem areSo_spec {μ : fMem} {V : HV} {S : SV} {N : NT} {K t : Nat} (h8 : V.1 2 ≤ 8) (hN : NW V N) (H : CN μ N) (hK : knS N = nI K) (hK2 : K ≤ N.1) {s : Nat → Bool} (hs : ∀ j, j < 24 → μ.1 129 j = if s j = true then 1 else 0) (cS : CS μ 78 V S) : f_X4_areSo 123 (nI t) 78 μ = some ((if allB (soB N.2.1 s S t) K = true then 1 else 0), μ) := by
  have h24 := hN.1
  have key : Ok (f_X4_areSo 123 (nI t) 78 μ) (fun r μ' => r = (if allB (soB N.2.1 s S t) K = true then 1 else 0) ∧ μ' = μ) := by
    unfold f_X4_areSo
    rw [Ok_bd]
    refine Ok.mono (Q := fun u (q : Int32 × fMem) => q.2 = μ ∧ ((u = 0 ∧ allB (soB N.2.1 s S t) K = true) ∨ (¬ u = 0 ∧ allB (soB N.2.1 s S t) K = false))) (Ok_lp K (fun i (q : Int32 × fMem) => q.1 = nI i ∧ q.2 = μ ∧ allB (soB N.2.1 s S t) i = true) (by omega) ⟨rfl, rfl, rfl⟩ ?_) ?_
    · rintro i ⟨z, μ1⟩ hi ⟨hz, hm, ha⟩
      dsimp only at hz hm ha ⊢
      subst hz hm
      unfold f_X4_areSo_L2
      simp only [Nat.reduceAdd]
      rw [knownBy_eq hN H, bd_some, hK]
      rcases Nat.lt_or_ge i K with q | q
      · have hk : i < N.1 := by omega
        have i24 : ixo (nI i) 24 := ixN (by omega) (by omega)
        have on : ∀ (h : ¬ (s i = false ∧ N.2.1 4 i = -1 ∧ N.2.1 0 i = nI t)), Ok (vl (nI i + 1) fun x => some (0, (x, μ1))) (fun u s' => (u = 0 ∧ i < K ∧ s'.1 = nI (i + 1) ∧ s'.2 = μ1 ∧ allB (soB N.2.1 s S t) (i + 1) = true) ∨ ∃ u1, u = u1 + 1 ∧ s'.2 = μ1 ∧ ((u1 = 0 ∧ allB (soB N.2.1 s S t) K = true) ∨ (¬ u1 = 0 ∧ allB (soB N.2.1 s S t) K = false))) := by
          intro h
          rw [Ok_vl, nI_1, Ok_some]
          exact Or.inl ⟨rfl, q, rfl, rfl, allB_step ha (soB_t h)⟩
        rw [if_neg (nI_ge q (by omega))]
        simp only [gd_t i24]
        rw [nI_clamp (by omega), hs i (by omega), (H.2.2 i hk).1]
        by_cases s1 : s i = false
        · rw [if_pos (bl_iff.mpr s1)]
          by_cases s2 : N.2.1 4 i = -1
          · obtain ⟨f0, f1, f2, f3⟩ := (H.2.2 i hk).2 s2
            obtain ⟨-, -, ⟨th, ht, et⟩, -, hb⟩ := (hN.2.2 i hk).resolve_right (fun ⟨j, hj, e⟩ => absurd (e.symm.trans s2) (nI_nm1 (by omega)))
            rw [if_pos s2, f0, f1, f2]
            by_cases s3 : N.2.1 0 i = nI t
            · have sv := soB_v (S := S) ⟨s1, s2, s3⟩
              rw [et, nI_clamp (by omega)] at sv
              rw [if_pos s3, Ok_vl, et, if_neg (nI_pos (by omega)), if_pos (show nI th < 8 from nI_lt (b := 8) (by omega) (by omega)), gd_t (ixN (by omega) (by omega)), nI_clamp (by omega), cS.1 th ht]
              have fin : ∀ b : Int32, b = (if S 0 th = N.2.1 2 i then 1 else 0) → Ok (f_X4_areSo_j86 123 (nI t) 78 (nI i) b μ1) (fun u s' => (u = 0 ∧ i < K ∧ s'.1 = nI (i + 1) ∧ s'.2 = μ1 ∧ allB (soB N.2.1 s S t) (i + 1) = true) ∨ ∃ u1, u = u1 + 1 ∧ s'.2 = μ1 ∧ ((u1 = 0 ∧ allB (soB N.2.1 s S t) K = true) ∨ (¬ u1 = 0 ∧ allB (soB N.2.1 s S t) K = false))) := by
                rintro b rfl
                unfold f_X4_areSo_j86
                simp only [Nat.reduceAdd]
                rw [gd_t i24, nI_clamp (by omega), f3]
                by_cases cz : (if S 0 th = N.2.1 2 i then (1 : Int32) else 0) = N.2.1 3 i
                · rw [if_pos cz, Ok_vl, nI_1, Ok_some]
                  exact Or.inl ⟨rfl, q, rfl, rfl, allB_step ha (by rw [sv]; exact decide_eq_true cz)⟩
                · rw [if_neg cz, Ok_some]
                  exact Or.inr ⟨1, rfl, rfl, Or.inr ⟨by decide, allB_fail (by rw [sv]; exact decide_eq_false cz) K q⟩⟩
              by_cases c2 : S 0 th = N.2.1 2 i
              · rw [if_pos c2]; exact fin 1 (by rw [if_pos c2])
              · rw [if_neg c2]; exact fin 0 (by rw [if_neg c2])
            · rw [if_neg s3]; exact on (fun w => s3 w.2.2)
          · rw [if_neg s2]; exact on (fun w => s2 w.2.1)
        · rw [if_neg (fun w => s1 (bl_iff.mp w))]; exact on (fun w => s1 w.1)
      · rw [if_pos (nI_le q (by omega)), Ok_some]
        have : i = K := by omega
        subst this
        exact Or.inr ⟨0, rfl, rfl, Or.inl ⟨rfl, ha⟩⟩
    · rintro u ⟨z, μ1⟩ ⟨hm, hq⟩
      dsimp only at hm hq ⊢
      subst hm
      rcases hq with ⟨rfl, h⟩ | ⟨hu, h⟩
      · rw [if_pos rfl, gd_t (Or.inr rfl), Ok_some, h]; exact ⟨rfl, rfl⟩
      · rw [if_neg hu, gd_t (Or.inl rfl), Ok_some, h]; exact ⟨rfl, rfl⟩
  obtain ⟨a, b, e, rfl, rfl⟩ := key
  exact e
theorem isSo_spec {ν : fMem} {V : HV} {S : SV} {N : NT} {K t : Nat} (h8 : V.1 2 ≤ 8) (hN : NW V N) (H : MN ν N) (hK : knS N = nI K) (hK2 : K ≤ N.1) {s : Nat → Bool} (hs : ∀ j, j < K → ν.1 220 j = if s j = true then 1 else 0) (mS : MSt ν 1 V S 0 (-1)) : f_X11_isSo 181 (nI t) ν = some ((if allB (soB N.2.1 s S t) K = true then 1 else 0), ν) := by
  have h24 := hN.1
  have key : Ok (f_X11_isSo 181 (nI t) ν) (fun r ν' => r = (if allB (soB N.2.1 s S t) K = true then 1 else 0) ∧ ν' = ν) := by
    unfold f_X11_isSo
    rw [Ok_bd]
    refine Ok.mono (Q := fun u (q : Int32 × fMem) => q.2 = ν ∧ ((u = 0 ∧ allB (soB N.2.1 s S t) K = true) ∨ (¬ u = 0 ∧ allB (soB N.2.1 s S t) K = false))) (Ok_lp K (fun i (q : Int32 × fMem) => q.1 = nI i ∧ q.2 = ν ∧ allB (soB N.2.1 s S t) i = true) (by omega) ⟨rfl, rfl, rfl⟩ ?_) ?_
    · rintro i ⟨z, ν1⟩ hi ⟨hz, hm, ha⟩
      dsimp only at hz hm ha ⊢
      subst hz hm
      unfold f_X11_isSo_L2
      simp only [Nat.reduceAdd]
      rw [knownMany_eq H, bd_some, hK]
      rcases Nat.lt_or_ge i K with q | q
      · have hk : i < N.1 := by omega
        have i24 : ixo (nI i) 24 := ixN (by omega) (by omega)
        have on : ∀ (h : ¬ (s i = false ∧ N.2.1 4 i = -1 ∧ N.2.1 0 i = nI t)), Ok (vl (nI i + 1) fun x => some (0, (x, ν1))) (fun u s' => (u = 0 ∧ i < K ∧ s'.1 = nI (i + 1) ∧ s'.2 = ν1 ∧ allB (soB N.2.1 s S t) (i + 1) = true) ∨ ∃ u1, u = u1 + 1 ∧ s'.2 = ν1 ∧ ((u1 = 0 ∧ allB (soB N.2.1 s S t) K = true) ∨ (¬ u1 = 0 ∧ allB (soB N.2.1 s S t) K = false))) := by
          intro h
          rw [Ok_vl, nI_1, Ok_some]
          exact Or.inl ⟨rfl, q, rfl, rfl, allB_step ha (soB_t h)⟩
        rw [if_neg (nI_ge q (by omega))]
        simp only [gd_t i24]
        rw [nI_clamp (by omega), hs i q, (H.2.2 i hk).1]
        by_cases s1 : s i = false
        · rw [if_pos (bl_iff.mpr s1)]
          by_cases s2 : N.2.1 4 i = -1
          · obtain ⟨f0, f1, f2, f3⟩ := (H.2.2 i hk).2 s2
            obtain ⟨-, -, ⟨th, ht, et⟩, -, hb⟩ := (hN.2.2 i hk).resolve_right (fun ⟨j, hj, e⟩ => absurd (e.symm.trans s2) (nI_nm1 (by omega)))
            rw [if_pos s2, f0, f1, f2]
            by_cases s3 : N.2.1 0 i = nI t
            · have sv := soB_v (S := S) ⟨s1, s2, s3⟩
              rw [et, nI_clamp (by omega)] at sv
              have mt := mS.1 th ht
              rw [if_neg (fun z => absurd z.1 (by decide))] at mt
              rw [if_pos s3, et, show (8 : Int32) + nI th = nI (8 * 1 + th) from nI_add 8 th, gd_t (ixN (by omega) (by omega)), nI_clamp (by omega), mt]
              have fin : ∀ b : Int32, b = (if S 0 th = N.2.1 2 i then 1 else 0) → Ok (f_X11_isSo_j70 181 (nI t) (nI i) b ν1) (fun u s' => (u = 0 ∧ i < K ∧ s'.1 = nI (i + 1) ∧ s'.2 = ν1 ∧ allB (soB N.2.1 s S t) (i + 1) = true) ∨ ∃ u1, u = u1 + 1 ∧ s'.2 = ν1 ∧ ((u1 = 0 ∧ allB (soB N.2.1 s S t) K = true) ∨ (¬ u1 = 0 ∧ allB (soB N.2.1 s S t) K = false))) := by
                rintro b rfl
                unfold f_X11_isSo_j70
                simp only [Nat.reduceAdd]
                rw [gd_t i24, nI_clamp (by omega), f3]
                by_cases cz : (if S 0 th = N.2.1 2 i then (1 : Int32) else 0) = N.2.1 3 i
                · rw [if_pos cz, Ok_vl, nI_1, Ok_some]
                  exact Or.inl ⟨rfl, q, rfl, rfl, allB_step ha (by rw [sv]; exact decide_eq_true cz)⟩
                · rw [if_neg cz, Ok_some]
                  exact Or.inr ⟨1, rfl, rfl, Or.inr ⟨by decide, allB_fail (by rw [sv]; exact decide_eq_false cz) K q⟩⟩
              by_cases c2 : S 0 th = N.2.1 2 i
              · rw [if_pos c2]; exact fin 1 (by rw [if_pos c2])
              · rw [if_neg c2]; exact fin 0 (by rw [if_neg c2])
            · rw [if_neg s3]; exact on (fun w => s3 w.2.2)
          · rw [if_neg s2]; exact on (fun w => s2 w.2.1)
        · rw [if_neg (fun w => s1 (bl_iff.mp w))]; exact on (fun w => s1 w.1)
      · rw [if_pos (nI_le q (by omega)), Ok_some]
        have : i = K := by omega
        subst this
        exact Or.inr ⟨0, rfl, rfl, Or.inl ⟨rfl, ha⟩⟩
    · rintro u ⟨z, ν1⟩ ⟨hm, hq⟩
      dsimp only at hm hq ⊢
      subst hm
      rcases hq with ⟨rfl, h⟩ | ⟨hu, h⟩
      · rw [if_pos rfl, gd_t (Or.inr rfl), Ok_some, h]; exact ⟨rfl, rfl⟩
      · rw [if_neg hu, gd_t (Or.inl rfl), Ok_some, h]; exact ⟨rfl, rfl⟩
  obtain ⟨a, b, e, rfl, rfl⟩ := key
  exact e
end Sim12
