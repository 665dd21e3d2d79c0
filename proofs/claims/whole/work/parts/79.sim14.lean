/-! how likely -/
section Sim14
theorem lNi {n : Nat} (h : n < 2 ^ 63) : (lN n).toInt = (n : Int) := Int64.toInt_ofNat_of_lt h
theorem lN_inj {a b : Nat} (ha : a < 2 ^ 63) (hb : b < 2 ^ 63) : lN a = lN b ↔ a = b := by
  constructor
  · intro h
    have := congrArg Int64.toInt h
    rw [lNi ha, lNi hb] at this
    omega
  · rintro rfl; rfl
theorem lNdiv {a b : Nat} (ha : a < 2 ^ 62) (hb : b < 2 ^ 62) : lN a / lN b = lN (a / b) := by
  refine Int64.toInt_inj.mp ?_
  rw [Int64.toInt_div, lNi (by omega), lNi (by omega), lNi (Nat.lt_of_le_of_lt (Nat.div_le_self a b) (by omega))]
  have e : ((a : Int).tdiv (b : Int)) = ((a / b : Nat) : Int) := rfl
  rw [e]
  have h1 : a / b < 2 ^ 62 := Nat.lt_of_le_of_lt (Nat.div_le_self a b) ha
  generalize a / b = c at h1
  exact Int.bmod_eq_of_le (by omega) (by omega)
theorem lNrm {a b : Nat} (ha : a < 2 ^ 62) (hb : b < 2 ^ 62) : lrm (lN a) (lN b) = lN (a % b) := by
  unfold lrm
  rw [lNdiv ha hb, lN_mul, lN_sub (Nat.div_mul_le_self a b)]
  congr 1
  rw [Nat.mul_comm]
  exact (Nat.mod_eq_sub_mul_div).symm ▸ rfl
/-- the greatest shared one, in few steps -/
theorem gcdM : ∀ (n x y f : Nat) (μ : fMem), x < 2 ^ 62 → y < 2 ^ 62 → y < 2 ^ n → 2 * n + 2 ≤ f → lpn (fun (q : Int64 × Int64 × fMem) => f_X11_common_L6 q.1 q.2.1 q.2.2) f (lN x, lN y, μ) = some (0, (lN (Nat.gcd x y), lN 0, μ))
  | n, x, y, f, μ, hx, hy, hn, hf => by
    obtain ⟨f, rfl⟩ : ∃ f', f = f' + 1 := ⟨f - 1, by omega⟩
    by_cases y0 : y = 0
    · subst y0
      have b0 : f_X11_common_L6 (lN x) (lN 0) μ = some (1, (lN x, lN 0, μ)) := by
        unfold f_X11_common_L6
        rw [if_pos (show lg_cmp (lN 0) 0 = 0 from lgz.mpr rfl)]
      unfold lpn
      dsimp only
      rw [b0, Nat.gcd_zero_right]
    · have yz : ¬ lN y = 0 := fun z => y0 ((lN_inj (b := 0) (by omega) (by omega)).mp z)
      have b1 : f_X11_common_L6 (lN x) (lN y) μ = some (0, (lN y, lN (x % y), μ)) := by
        unfold f_X11_common_L6 vl
        rw [if_neg (fun z => yz (lgz.mp z)), gd_t yz, lNrm hx hy]
      have xy : x % y < y := Nat.mod_lt _ (by omega)
      unfold lpn
      dsimp only
      rw [b1]
      dsimp only
      obtain ⟨f, rfl⟩ : ∃ f', f = f' + 1 := ⟨f - 1, by omega⟩
      by_cases r0 : x % y = 0
      · have b2 : f_X11_common_L6 (lN y) (lN (x % y)) μ = some (1, (lN y, lN (x % y), μ)) := by
          unfold f_X11_common_L6
          rw [if_pos (lgz.mpr (by rw [r0]; rfl))]
        unfold lpn
        dsimp only
        rw [b2]
        have : Nat.gcd x y = y := by rw [Nat.gcd_comm, Nat.gcd_rec, r0, Nat.gcd_zero_left]
        rw [this, r0]
      · have rz : ¬ lN (x % y) = 0 := fun z => r0 ((lN_inj (b := 0) (by omega) (by omega)).mp z)
        have b2 : f_X11_common_L6 (lN y) (lN (x % y)) μ = some (0, (lN (x % y), lN (y % (x % y)), μ)) := by
          unfold f_X11_common_L6 vl
          rw [if_neg (fun z => rz (lgz.mp z)), gd_t rz, lNrm hy (by omega)]
        have yr : y % (x % y) < x % y := Nat.mod_lt _ (by omega)
        have half : 2 * (y % (x % y)) < y := by
          have h1 := Nat.div_add_mod y (x % y)
          have h2 : 0 < y / (x % y) := Nat.div_pos (by omega) (by omega)
          have h3 : x % y ≤ (x % y) * (y / (x % y)) := Nat.le_mul_of_pos_right _ h2
          omega
        obtain ⟨n, rfl⟩ : ∃ n', n = n' + 1 := by
          rcases Nat.eq_zero_or_pos n with rfl | h
          · omega
          · exact ⟨n - 1, by omega⟩
        unfold lpn
        dsimp only
        rw [b2]
        dsimp only
        rw [gcdM n (x % y) (y % (x % y)) f μ (by omega) (by omega) (by rw [Nat.pow_succ] at hn; omega) (by omega)]
        have : Nat.gcd (x % y) (y % (x % y)) = Nat.gcd x y := by
          rw [Nat.gcd_comm x y, Nat.gcd_rec y x, Nat.gcd_rec (x % y) y, Nat.gcd_comm]
        rw [this]
theorem gcdC : ∀ (n x y f c : Nat) (μ : fMem), x < 2 ^ 62 → y < 2 ^ 62 → y < 2 ^ n → 2 * n + 2 ≤ f → c + 2 * n + 2 ≤ 1000 → ∃ k, lpn (fun (q : Int64 × Int64 × Int32 × fMem) => f_X10_greatestShared_L9 q.1 q.2.1 q.2.2.1 q.2.2.2) f (lN x, lN y, nI c, μ) = some (0, (lN (Nat.gcd x y), lN 0, nI k, μ))
  | n, x, y, f, c, μ, hx, hy, hn, hf, hc => by
    obtain ⟨f, rfl⟩ : ∃ f', f = f' + 1 := ⟨f - 1, by omega⟩
    have g : ∀ c, c < 1000 → ¬ 1000 ≤ nI c := fun c h => nI_ge (b := 1000) h (by omega)
    by_cases y0 : y = 0
    · subst y0
      have b0 : f_X10_greatestShared_L9 (lN x) (lN 0) (nI c) μ = some (1, (lN x, lN 0, nI c, μ)) := by
        unfold f_X10_greatestShared_L9
        rw [if_neg (g c (by omega)), if_pos (show lg_cmp (lN 0) 0 = 0 from lgz.mpr rfl)]
      unfold lpn
      dsimp only
      rw [b0, Nat.gcd_zero_right]
      exact ⟨c, rfl⟩
    · have yz : ¬ lN y = 0 := fun z => y0 ((lN_inj (b := 0) (by omega) (by omega)).mp z)
      have b1 : f_X10_greatestShared_L9 (lN x) (lN y) (nI c) μ = some (0, (lN y, lN (x % y), nI (c + 1), μ)) := by
        unfold f_X10_greatestShared_L9 vl
        rw [if_neg (g c (by omega)), if_neg (fun z => yz (lgz.mp z)), gd_t yz, lNrm hx hy, nI_1]
      have xy : x % y < y := Nat.mod_lt _ (by omega)
      unfold lpn
      dsimp only
      rw [b1]
      dsimp only
      obtain ⟨f, rfl⟩ : ∃ f', f = f' + 1 := ⟨f - 1, by omega⟩
      by_cases r0 : x % y = 0
      · have b2 : f_X10_greatestShared_L9 (lN y) (lN (x % y)) (nI (c + 1)) μ = some (1, (lN y, lN (x % y), nI (c + 1), μ)) := by
          unfold f_X10_greatestShared_L9
          rw [if_neg (g _ (by omega)), if_pos (lgz.mpr (by rw [r0]; rfl))]
        unfold lpn
        dsimp only
        rw [b2]
        have : Nat.gcd x y = y := by rw [Nat.gcd_comm, Nat.gcd_rec, r0, Nat.gcd_zero_left]
        rw [this, r0]
        exact ⟨_, rfl⟩
      · have rz : ¬ lN (x % y) = 0 := fun z => r0 ((lN_inj (b := 0) (by omega) (by omega)).mp z)
        have yr : y % (x % y) < x % y := Nat.mod_lt _ (by omega)
        have half : 2 * (y % (x % y)) < y := by
          have h1 := Nat.div_add_mod y (x % y)
          have h2 : 0 < y / (x % y) := Nat.div_pos (by omega) (by omega)
          have h3 : x % y ≤ (x % y) * (y / (x % y)) := Nat.le_mul_of_pos_right _ h2
          omega
        obtain ⟨n, rfl⟩ : ∃ n', n = n' + 1 := by
          rcases Nat.eq_zero_or_pos n with rfl | h
          · omega
          · exact ⟨n - 1, by omega⟩
        have b2 : f_X10_greatestShared_L9 (lN y) (lN (x % y)) (nI (c + 1)) μ = some (0, (lN (x % y), lN (y % (x % y)), nI (c + 1 + 1), μ)) := by
          unfold f_X10_greatestShared_L9 vl
          rw [if_neg (g _ (by omega)), if_neg (fun z => rz (lgz.mp z)), gd_t rz, lNrm hy (by omega), nI_1]
        unfold lpn
        dsimp only
        rw [b2]
        dsimp only
        obtain ⟨k, e⟩ := gcdC n (x % y) (y % (x % y)) f (c + 1 + 1) μ (by omega) (by omega) (by rw [Nat.pow_succ] at hn; omega) (by omega) (by omega)
        have : Nat.gcd (x % y) (y % (x % y)) = Nat.gcd x y := by
          rw [Nat.gcd_comm x y, Nat.gcd_rec y x, Nat.gcd_rec (x % y) y, Nat.gcd_comm]
        rw [← this]
        exact ⟨k, e⟩
/-- how many ways, as each side finds it -/
def wyC (n k : Nat) : Nat → Nat
  | 0 => 1
  | m + 1 => wyC n k m * (n - k + (m + 1)) / (m + 1)
def wyM (n : Nat) : Nat → Nat
  | 0 => 1
  | m + 1 => wyM n m * (n - m) / (m + 1)
theorem wy_tab : ∀ n, n ≤ 8 → ∀ k, k ≤ n → wyC n k k = wyM n k ∧ (∀ m, m ≤ k → wyC n k m ≤ 70 ∧ wyM n m ≤ 70) := by decide +kernel
def prN (g k : Nat) : Nat → Nat
  | 0 => 1
  | m + 1 => prN g k m * (if m < k then g else 100 - g)
theorem prN_le {g : Nat} (hg : g ≤ 100) (k : Nat) : ∀ m, prN g k m ≤ 100 ^ m
  | 0 => Nat.le_refl _
  | m + 1 => by
    unfold prN
    rw [Nat.pow_succ]
    refine Nat.mul_le_mul (prN_le hg k m) ?_
    split <;> omega
theorem ways_spec {n k : Nat} (hn : n ≤ 8) (hk : k ≤ n) (μ : fMem) : Ok (f_X10_ways (nI n) (nI k) μ) (fun x μ' => x = lN (wyM n k) ∧ μ' = μ) := by
  obtain ⟨t1, t2⟩ := wy_tab n hn k hk
  unfold f_X10_ways
  rw [Ok_bd]
  refine Ok.mono (Q := fun u (q : Int64 × Int32 × fMem) => q.1 = lN (wyC n k k) ∧ q.2.2 = μ) (Ok_lp k (fun i (q : Int64 × Int32 × fMem) => q.2.1 = nI (i + 1) ∧ q.1 = lN (wyC n k i) ∧ q.2.2 = μ) (by omega) ⟨rfl, rfl, rfl⟩ ?_) ?_
  · rintro i ⟨b, z, μ1⟩ hi ⟨hz, hb, hm⟩
    dsimp only at hz hb hm ⊢
    subst hz hb hm
    unfold f_X10_ways_L5
    rcases Nat.lt_or_ge i k with q | q
    · have e : nI n - nI k + nI (i + 1) = nI (n - k + (i + 1)) := by
        rw [← nI_add (n - k), ← nI_sub (n - k) k, show n - k + k = n by omega]
      have b1 := (t2 i (by omega)).1
      have b2 : wyC n k i * (n - k + (i + 1)) < 2 ^ 62 := by
        have : wyC n k i * (n - k + (i + 1)) ≤ 70 * 20 := Nat.mul_le_mul b1 (by omega)
        omega
      rw [if_neg (nI_nlt (by omega) (by omega)), e, nI_l (by omega), nI_l (by omega), gd_t (show ¬ lN (i + 1) = 0 from fun z => by have := (lN_inj (a := i + 1) (b := 0) (by omega) (by omega)).mp z; omega), Ok_vl, Ok_vl, nI_1, lN_mul, lNdiv b2 (by omega), Ok_some]
      exact Or.inl ⟨rfl, q, rfl, rfl, rfl⟩
    · have : i = k := by omega
      subst this
      rw [if_pos (nI_lt (by omega) (by omega)), Ok_some]
      exact Or.inr ⟨0, rfl, rfl, rfl⟩
  · rintro u ⟨b, z, μ1⟩ ⟨hb, hm⟩
    exact Ok_some.mpr ⟨by rw [hb, t1], hm⟩
theorem sim_likely (a b c d : Int32) : Sim Rel (f_X10_likely 0 a b c d) (f_X11_likely 181 a b c d) := by
  refine simQ fun μ ν V S X h hV hS hX C M => ?_
  have cc := C.2.2.2.2.2.1
  have h6 : V.1 3 ≤ 6 := hV.2.2.2.1
  have n1 : (-1 : Int64) = -1 := rfl
  by_cases ca : hs (V.1 3) a
  rotate_left
  · refine ⟨-1, ?_, ?_⟩
    · unfold f_X10_likely
      refine qc_h C ?_
      rw [has3 C.2.2.2.1, bd_some, if_neg ca, if_pos rfl]; exact qc_some cc
    · unfold f_X11_likely
      refine qm_th hV hX M fun ν1 K M => ?_
      rw [isDead_eq M.1, bd_some, if_neg ca, if_pos rfl]; exact qm_some K
  by_cases b0 : b < 0
  · refine ⟨-1, ?_, ?_⟩
    · unfold f_X10_likely
      refine qc_h C ?_
      rw [has3 C.2.2.2.1, bd_some, if_pos ca, if_neg (by decide), if_pos b0]; exact qc_some cc
    · unfold f_X11_likely
      refine qm_th hV hX M fun ν1 K M => ?_
      rw [isDead_eq M.1, bd_some, if_pos ca, if_neg (by decide), if_pos b0]; exact qm_some K
  by_cases b8 : 8 < b
  · refine ⟨-1, ?_, ?_⟩
    · unfold f_X10_likely
      refine qc_h C ?_
      rw [has3 C.2.2.2.1, bd_some, if_pos ca, if_neg (by decide), if_neg b0, if_pos b8]; exact qc_some cc
    · unfold f_X11_likely
      refine qm_th hV hX M fun ν1 K M => ?_
      rw [isDead_eq M.1, bd_some, if_pos ca, if_neg (by decide), if_neg b0, if_pos b8]; exact qm_some K
  by_cases c0 : c < 0
  · refine ⟨-1, ?_, ?_⟩
    · unfold f_X10_likely
      refine qc_h C ?_
      rw [has3 C.2.2.2.1, bd_some, if_pos ca, if_neg (by decide), if_neg b0, if_neg b8, if_pos c0]; exact qc_some cc
    · unfold f_X11_likely
      refine qm_th hV hX M fun ν1 K M => ?_
      rw [isDead_eq M.1, bd_some, if_pos ca, if_neg (by decide), if_neg b0, if_neg b8, if_pos c0]; exact qm_some K
  by_cases cb : c ≤ b
  rotate_left
  · refine ⟨-1, ?_, ?_⟩
    · unfold f_X10_likely
      refine qc_h C ?_
      rw [has3 C.2.2.2.1, bd_some, if_pos ca, if_neg (by decide), if_neg b0, if_neg b8, if_neg c0, if_neg cb]; exact qc_some cc
    · unfold f_X11_likely
      refine qm_th hV hX M fun ν1 K M => ?_
      rw [isDead_eq M.1, bd_some, if_pos ca, if_neg (by decide), if_neg b0, if_neg b8, if_neg c0, if_pos (Int32.not_le.mp cb)]; exact qm_some K
  by_cases d0 : d < 0
  · refine ⟨-1, ?_, ?_⟩
    · unfold f_X10_likely
      refine qc_h C ?_
      rw [has3 C.2.2.2.1, bd_some, if_pos ca, if_neg (by decide), if_neg b0, if_neg b8, if_neg c0, if_pos cb, if_pos d0]; exact qc_some cc
    · unfold f_X11_likely
      refine qm_th hV hX M fun ν1 K M => ?_
      rw [isDead_eq M.1, bd_some, if_pos ca, if_neg (by decide), if_neg b0, if_neg b8, if_neg c0, if_neg (Int32.not_lt.mpr cb), if_pos d0]; exact qm_some K
  by_cases d1 : d ≤ 1
  rotate_left
  · refine ⟨-1, ?_, ?_⟩
    · unfold f_X10_likely
      refine qc_h C ?_
      rw [has3 C.2.2.2.1, bd_some, if_pos ca, if_neg (by decide), if_neg b0, if_neg b8, if_neg c0, if_pos cb, if_neg d0, if_neg d1]; exact qc_some cc
    · unfold f_X11_likely
      refine qm_th hV hX M fun ν1 K M => ?_
      rw [isDead_eq M.1, bd_some, if_pos ca, if_neg (by decide), if_neg b0, if_neg b8, if_neg c0, if_neg (Int32.not_lt.mpr cb), if_neg d0, if_neg d1]; exact qm_some K
  obtain ⟨dd, hd, rfl⟩ := hs_ex ca (by omega)
  obtain ⟨n, hn, rfl⟩ := nI_of2 (x := b) (M := 8) (n := 8) (by decide) b0 (Int32.not_lt.mp b8)
  obtain ⟨k, hk, rfl⟩ := nI_of2 (x := c) (M := nI n) (n := n) (nI_toInt (by omega)) c0 cb
  obtain ⟨F, hF, eF⟩ := (hV.2.2.2.2.2.2.2.1 dd hd).2.2.2
  have p100 : 100 ^ n ≤ 10000000000000000 := by
    have := Nat.pow_le_pow_right (show 0 < 100 by decide) hn
    have e : (100 : Nat) ^ 8 = 10000000000000000 := by decide
    omega
  have pp : 0 < 100 ^ n := Nat.pow_pos (by decide)
  have w70 := (wy_tab n hn k hk).2 k (Nat.le_refl _)
  have pr := prN_le (show 100 - F ≤ 100 by omega) k n
  generalize hA : wyM n k * prN (100 - F) k n = A
  generalize hB : 100 ^ n = B at p100 pp
  have hA2 : A < 2 ^ 62 := by
    have : A ≤ 70 * 10000000000000000 := by rw [← hA]; exact Nat.mul_le_mul w70.2 (by omega)
    omega
  have hB2 : B < 2 ^ 62 := by omega
  have gp : 0 < Nat.gcd A B := Nat.gcd_pos_of_pos_right A pp
  have gl : Nat.gcd A B ≤ B := Nat.gcd_le_right A pp
  have gz : ¬ lN (Nat.gcd A B) = 0 := fun z => by have := (lN_inj (a := Nat.gcd A B) (b := 0) (by omega) (by omega)).mp z; omega
  have eF2 : (100 : Int32) - nI F = nI (100 - F) := by
    have := nI_sub (100 - F) F
    rw [show 100 - F + F = 100 by omega] at this
    exact this
  refine ⟨if d = 0 then lN (A / Nat.gcd A B) else lN (B / Nat.gcd A B), ?_, ?_⟩
  · unfold f_X10_likely
    refine qc_h C ?_
    rw [has3 C.2.2.2.1, bd_some, if_pos ca, if_neg (by decide), if_neg b0, if_neg b8, if_neg c0, if_pos cb, if_neg d0, if_pos d1]
    refine qc_h C ?_
    rw [gd_t (ixN (by omega) (by omega)), nI_clamp (by omega), (C.2.2.2.1.2.2.2.1 dd hd).2.2.2, eF, eF2, nI_l (by omega)]
    refine Ok_vl.mpr (Ok_bd.mpr ?_)
    refine Ok.mono (Q := fun u (q : Int64 × Int64 × Int32 × fMem) => q.1 = lN (prN (100 - F) k n) ∧ q.2.1 = lN (100 ^ n) ∧ q.2.2.2 = μ) (Ok_lp n (fun i (q : Int64 × Int64 × Int32 × fMem) => q.2.2.1 = nI i ∧ q.1 = lN (prN (100 - F) k i) ∧ q.2.1 = lN (100 ^ i) ∧ q.2.2.2 = μ) (by omega) ⟨rfl, rfl, rfl, rfl⟩ ?_) ?_
    · rintro i ⟨x, y, z, μ1⟩ hi ⟨hz, hx, hy, hm⟩
      dsimp only at hz hx hy hm ⊢
      subst hz hx hy hm
      unfold f_X10_likely_L74 f_X10_likely_j99
      have un : prN (100 - F) k (i + 1) = prN (100 - F) k i * (if i < k then 100 - F else 100 - (100 - F)) := rfl
      rcases Nat.lt_or_ge i n with q | q
      · have e100 : lN (100 ^ i) * 100 = lN (100 ^ (i + 1)) := by
          rw [Nat.pow_succ]; exact lN_mul _ 100
        rw [if_neg (nI_ge q (by omega))]
        by_cases ck : i < k
        · rw [if_neg (nI_ge ck (by omega)), Ok_vl, Ok_vl, Ok_vl, e100, nI_1, lN_mul, Ok_some]
          exact Or.inl ⟨rfl, q, rfl, by rw [un, if_pos ck], rfl, rfl⟩
        · rw [if_pos (nI_le (by omega) (by omega)), Ok_vl, Ok_vl, Ok_vl, e100, nI_1, show (100 : Int64) - lN (100 - F) = lN (100 - (100 - F)) from lN_sub (a := 100) (by omega), lN_mul, Ok_some]
          exact Or.inl ⟨rfl, q, rfl, by rw [un, if_neg ck], rfl, rfl⟩
      · rw [if_pos (nI_le q (by omega)), Ok_some]
        have : i = n := by omega
        subst this
        exact Or.inr ⟨0, rfl, rfl, rfl, rfl⟩
    · rintro u ⟨x, y, z, μ1⟩ ⟨hx, hy, hm⟩
      dsimp only at hx hy hm ⊢
      subst hx hy hm
      rw [Ok_bd]
      refine (ways_spec hn hk μ1).mono ?_
      rintro w μ2 ⟨rfl, rfl⟩
      rw [Ok_vl, lN_mul, Nat.mul_comm, hA, hB]
      unfold f_X10_greatestShared
      obtain ⟨kk, e⟩ := gcdC 62 B A fuel 0 μ2 hB2 hA2 hA2 (by unfold fuel; omega) (by omega)
      rw [Nat.gcd_comm] at e
      have e : lpn (fun (q : Int64 × Int64 × Int32 × fMem) => f_X10_greatestShared_L9 q.1 q.2.1 q.2.2.1 q.2.2.2) fuel (lN B, lN A, (0 : Int32), μ2) = some (0, (lN (Nat.gcd A B), lN 0, nI kk, μ2)) := e
      rw [e, bd_some]
      dsimp only
      rw [bd_some, if_pos (lgp.mpr (Int64.lt_iff_toInt_lt.mpr (by rw [lNi (by omega)]; show (0 : Int) < _; omega))), gd_t gz, gd_t gz, lNdiv hA2 (by omega), lNdiv hB2 (by omega)]
      by_cases dz : d = 0
      · rw [if_pos dz, if_pos dz]; exact qc_some cc
      · rw [if_neg dz, if_neg dz]; exact qc_some cc
  · unfold f_X11_likely
    refine qm_th hV hX M fun ν1 K M => ?_
    rw [isDead_eq M.1, bd_some, if_pos ca, if_neg (by decide), if_neg b0, if_neg b8, if_neg c0, if_neg (Int32.not_lt.mpr cb), if_neg d0, if_pos d1]
    refine Ok_bd.mpr ?_
    refine Ok.mono (Q := fun u (q : Int64 × Int32 × fMem) => q.1 = lN (wyM n k) ∧ q.2.2 = ν1) (Ok_lp k (fun i (q : Int64 × Int32 × fMem) => q.2.1 = nI i ∧ q.1 = lN (wyM n i) ∧ q.2.2 = ν1) (by omega) ⟨rfl, rfl, rfl⟩ ?_) ?_
    · rintro i ⟨x, z, ν2⟩ hi ⟨hz, hx, hm⟩
      dsimp only at hz hx hm ⊢
      subst hz hx hm
      unfold f_X11_likely_L56
      rcases Nat.lt_or_ge i k with q | q
      · have e : nI n - nI i = nI (n - i) := by
          have := nI_sub (n - i) i
          rw [show n - i + i = n by omega] at this
          exact this
        have b1 := ((wy_tab n hn k hk).2 i (by omega)).2
        have b2 : wyM n i * (n - i) < 2 ^ 62 := by
          have : wyM n i * (n - i) ≤ 70 * 20 := Nat.mul_le_mul b1 (by omega)
          omega
        rw [if_neg (nI_ge q (by omega)), nI_1, e, nI_l (by omega), nI_l (by omega), gd_t (show ¬ lN (i + 1) = 0 from fun z => by have := (lN_inj (a := i + 1) (b := 0) (by omega) (by omega)).mp z; omega), Ok_vl, Ok_vl, lN_mul, lNdiv b2 (by omega), Ok_some]
        exact Or.inl ⟨rfl, q, rfl, rfl, rfl⟩
      · rw [if_pos (nI_le q (by omega)), Ok_some]
        have : i = k := by omega
        subst this
        exact Or.inr ⟨0, rfl, rfl, rfl⟩
    · rintro u ⟨x, z, ν2⟩ ⟨hx, hm⟩
      dsimp only at hx hm ⊢
      subst hx hm
      rw [Ok_bd]
      refine Ok.mono (Q := fun u (q : Int64 × Int64 × Int32 × fMem) => q.1 = lN (wyM n k * prN (100 - F) k n) ∧ q.2.1 = lN (100 ^ n) ∧ q.2.2.2 = ν2) (Ok_lp n (fun i (q : Int64 × Int64 × Int32 × fMem) => q.2.2.1 = nI i ∧ q.1 = lN (wyM n k * prN (100 - F) k i) ∧ q.2.1 = lN (100 ^ i) ∧ q.2.2.2 = ν2) (by omega) ⟨rfl, by show _ = lN (wyM n k * 1); rw [Nat.mul_one], rfl, rfl⟩ ?_) ?_
      · rintro i ⟨x, y, z, ν3⟩ hi ⟨hz, hx, hy, hm⟩
        dsimp only at hz hx hy hm ⊢
        subst hz hx hy hm
        unfold f_X11_likely_L87 f_X11_likely_j121
        simp only [Nat.reduceAdd]
        have un : prN (100 - F) k (i + 1) = prN (100 - F) k i * (if i < k then 100 - F else 100 - (100 - F)) := rfl
        rcases Nat.lt_or_ge i n with q | q
        · have e100 : lN (100 ^ i) * 100 = lN (100 ^ (i + 1)) := by
            rw [Nat.pow_succ]; exact lN_mul _ 100
          rw [if_neg (nI_ge q (by omega)), gd_t (ixN (by omega) (by omega)), gd_t (ixN (by omega) (by omega)), nI_clamp (by omega), (M.1.2.2.2.1 dd hd).2.2.2, eF, eF2, nI_l (by omega), nI_l (by omega)]
          by_cases ck : i < k
          · rw [if_neg (nI_ge ck (by omega)), Ok_vl, Ok_vl, Ok_vl, e100, nI_1, lN_mul, Ok_some]
            exact Or.inl ⟨rfl, q, rfl, by rw [un, if_pos ck, Nat.mul_assoc], rfl, rfl⟩
          · rw [if_pos (nI_le (by omega) (by omega)), Ok_vl, Ok_vl, Ok_vl, e100, nI_1, lN_mul, Ok_some]
            exact Or.inl ⟨rfl, q, rfl, by rw [un, if_neg ck, Nat.mul_assoc, show 100 - (100 - F) = F by omega], rfl, rfl⟩
        · rw [if_pos (nI_le q (by omega)), Ok_some]
          have : i = n := by omega
          subst this
          exact Or.inr ⟨0, rfl, rfl, rfl, rfl⟩
      · rintro u ⟨x, y, z, ν3⟩ ⟨hx, hy, hm⟩
        dsimp only at hx hy hm ⊢
        subst hx hy hm
        rw [hA, hB]
        unfold f_X11_common
        rw [gcdM 62 A B fuel ν3 hA2 hB2 hB2 (by unfold fuel; omega), bd_some]
        dsimp only
        rw [bd_some, gd_t gz, gd_t gz, lNdiv hA2 (by omega), lNdiv hB2 (by omega)]
        by_cases dz : d = 0
        · rw [if_pos dz, if_pos dz]; exact qm_some K
        · rw [if_neg dz, if_neg dz]; exact qm_some K
end Sim14
