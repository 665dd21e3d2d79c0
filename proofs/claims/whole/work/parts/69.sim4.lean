/-! counts, what nobody likes, what is best loved -/
section Sim4
def knS (N : Nat × (Nat → Nat → Int32) × Int32) : Int32 := if N.2.2 = -1 then nI N.1 else N.2.2
theorem knS_ex {V : HV} {N : Nat × (Nat → Nat → Int32) × Int32} (hN : NW V N) : ∃ j, j ≤ N.1 ∧ knS N = nI j := by
  unfold knS
  rcases hN.2.1 with e | ⟨j, hj, e⟩
  · rw [if_pos e]; exact ⟨N.1, Nat.le_refl _, rfl⟩
  · have h24 := hN.1
    rw [e, if_neg (nI_nm1 (by omega))]; exact ⟨j, hj, rfl⟩
theorem knownBy_eq {μ : fMem} {V : HV} {N : Nat × (Nat → Nat → Int32) × Int32} (hN : NW V N) (H : CN μ N) : f_X4_knownBy 123 μ = some (knS N, μ) := by
  have h24 := hN.1
  unfold f_X4_knownBy knS
  rw [H.1, H.2.1]
  rcases hN.2.1 with e | ⟨j, hj, e⟩
  · rw [if_pos e, if_pos e]
  · rw [e, if_neg (nI_nm1 (by omega)), if_neg (nI_nm1 (by omega))]
    unfold imn
    rw [if_neg (nI_nlt hj (by omega))]
theorem knownMany_eq {ν : fMem} {N : Nat × (Nat → Nat → Int32) × Int32} (H : MN ν N) : f_X11_knownMany 181 ν = some (knS N, ν) := by
  unfold f_X11_knownMany knS
  rw [H.1, H.2.1]
  by_cases c : N.2.2 = -1
  · rw [if_pos c, if_pos c]
  · rw [if_neg c, if_neg c]
theorem cameM_eq {ν : fMem} {V : HV} {S : SV} (hV : HW V) (mH : MH ν V) (H : MSt ν 0 V S 0 (-1)) : Ok (lpn (fun (q : Int32 × Int32 × fMem) => f_X11_count_L148 181 q.1 q.2.1 q.2.2) fuel ((0 : Int32), (0 : Int32), ν)) (fun _ q => q.1 = sumN (V.1 3) (S 4) ∧ q.2.2 = ν) := by
  have h6 : V.1 3 ≤ 6 := hV.2.2.2.1
  refine Ok_lp (V.1 3) (fun i (q : Int32 × Int32 × fMem) => q.2.1 = nI i ∧ q.1 = sumN i (S 4) ∧ q.2.2 = ν) (by omega) ⟨rfl, rfl, rfl⟩ ?_
  rintro i ⟨b, z, ν1⟩ hi ⟨hz, hb, hm⟩
  dsimp only at hz hb hm ⊢
  subst hz hb hm
  unfold f_X11_count_L148
  simp only [Nat.reduceAdd]
  rw [mH.1 3 (by omega)]
  rcases Nat.lt_or_ge i (V.1 3) with q | q
  · have e := H.2.2.2.2.1 i (by omega)
    rw [show 6 * 0 + i = i by omega] at e
    rw [if_neg (nI_ge q (by omega)), gd_t (ixN (by omega) (by omega)), nI_clamp (by omega), e, Ok_vl, Ok_vl, nI_1, Ok_some]
    exact Or.inl ⟨rfl, q, rfl, rfl, rfl⟩
  · rw [if_pos (nI_le q (by omega)), Ok_some]
    have : i = V.1 3 := by omega
    subst this
    exact Or.inr ⟨0, rfl, rfl, rfl⟩
def cntS (V : HV) (S : SV) (X : RX) (a : Int32) : Int32 := if a = 0 then nI (V.1 0) else if a = 1 then nI (V.1 1) else if a = 2 then nI (V.1 2) else if a = 3 then nI (V.1 3) else if a = 4 then nI (V.1 4) else if a = 5 then nI (V.1 6) else if a = 6 then S 6 0 else if a = 7 then sumN (V.1 2) (S 1) else if a = 8 then sumN (V.1 2) (S 2) else if a = 9 then sumN (V.1 3) (S 4) else if a = 10 then nI X.2.2.1.1 else if a = 11 then knS X.2.2.1 else if a = 12 then nI X.2.1.length else -1
theorem qc_if {α : Type} {c : Prop} [Decidable c] {x y : Option (α × fMem)} {μ : fMem} {V : HV} {a b : α} (h1 : c → QC x μ V a) (h2 : ¬ c → QC y μ V b) : QC (if c then x else y) μ V (if c then a else b) := by
  by_cases h : c
  · rw [if_pos h, if_pos h]; exact h1 h
  · rw [if_neg h, if_neg h]; exact h2 h
theorem qm_if {α : Type} {c : Prop} [Decidable c] {x y : Option (α × fMem)} {ν : fMem} {a b : α} (h1 : c → QM x ν a) (h2 : ¬ c → QM y ν b) : QM (if c then x else y) ν (if c then a else b) := by
  by_cases h : c
  · rw [if_pos h, if_pos h]; exact h1 h
  · rw [if_neg h, if_neg h]; exact h2 h
theorem sim_count (a : Int32) : Sim Rel (f_X10_count 0 a) (f_X11_count 181 a) := by
  refine simQ fun μ ν V S X h hV hS hX C M => ⟨cntS V S X a, ?_, ?_⟩
  · have cc := C.2.2.2.2.2.1
    have cH := C.2.2.2.1
    have cS := C.2.2.2.2.1
    have h8 : V.1 2 ≤ 8 := hV.2.2.1
    have h6 : V.1 3 ≤ 6 := hV.2.2.2.1
    have s7 : sumN 8 (μ.1 68) = sumN (V.1 2) (S 1) := by
      rw [sumN_congr (g := S 1) (fun i hi => cS.2.1 i hi), sumN_ext h8 (fun i a b => (hS.2.2.1 i a b).1)]
    have s8 : sumN 8 (μ.1 69) = sumN (V.1 2) (S 2) := by
      rw [sumN_congr (g := S 2) (fun i hi => cS.2.2.1 i hi), sumN_ext h8 (fun i a b => (hS.2.2.1 i a b).2)]
    have s9 : sumN 6 (μ.1 71) = sumN (V.1 3) (S 4) := by
      rw [sumN_congr (g := S 4) (fun i hi => cS.2.2.2.2.1 i hi), sumN_ext h6 (fun i a b => hS.2.2.2 i a b)]
    unfold f_X10_count cntS
    simp only [Nat.reduceAdd, vl, C.2.1, gd_t C.kd, told0 cH, told1 cH, told2 cH, told3 cH, told4 cH, bd_some, cH.2.1, cS.2.2.2.2.2.2.1, sum_eq (μ := μ) (show kd 68 = (0, 8) by decide) (by decide), sum_eq (μ := μ) (show kd 69 = (0, 8) by decide) (by decide), sum_eq (μ := μ) (show kd 71 = (0, 6) by decide) (by decide), s7, s8, s9, C.2.2.2.2.2.2.2.2.1.1, knownBy_eq hX.2.2.1 C.2.2.2.2.2.2.2.2.1, C.2.2.2.2.2.2.2.1.1]
    refine qc_if (fun _ => qc_some cc) fun _ => qc_if (fun _ => qc_some cc) fun _ => qc_if (fun _ => qc_some cc) fun _ => qc_if (fun _ => qc_some cc) fun _ => qc_if (fun _ => qc_some cc) fun _ => qc_if (fun _ => qc_some cc) fun _ => qc_if (fun _ => qc_some cc) fun _ => qc_if (fun _ => qc_some cc) fun _ => qc_if (fun _ => qc_some cc) fun _ => qc_if (fun _ => qc_some cc) fun _ => qc_if (fun _ => qc_some cc) fun _ => qc_if (fun _ => qc_some cc) fun _ => qc_if (fun _ => qc_some cc) fun _ => qc_some cc
  · unfold f_X11_count cntS
    refine qm_th hV hX M fun ν1 K M => ?_
    have mH := M.1
    have m6 := M.2.1.2.2.2.2.2.2
    simp only [Nat.reduceAdd, mH.1 0 (by omega), mH.1 1 (by omega), mH.1 2 (by omega), mH.1 3 (by omega), mH.1 4 (by omega), mH.2.1, m6, show f_X11_sumOf 181 207 0 ν1 = some (sumN (V.1 2) (S 1), ν1) from sumOf7 (x := 0) mH hV M.2.1 (by decide), show f_X11_sumOf 181 208 0 ν1 = some (sumN (V.1 2) (S 2), ν1) from sumOf8 (x := 0) mH hV M.2.1 (by decide), bd_some, M.2.2.2.2.2.1.1, knownMany_eq M.2.2.2.2.2.1, M.2.2.2.2.1.1]
    refine qm_if (fun _ => qm_some K) fun _ => qm_if (fun _ => qm_some K) fun _ => qm_if (fun _ => qm_some K) fun _ => qm_if (fun _ => qm_some K) fun _ => qm_if (fun _ => qm_some K) fun _ => qm_if (fun _ => qm_some K) fun _ => qm_if (fun _ => qm_some K) fun _ => qm_if (fun _ => qm_some K) fun _ => qm_if (fun _ => qm_some K) fun _ => qm_if (fun _ => ?_) fun _ => qm_if (fun _ => qm_some K) fun _ => qm_if (fun _ => qm_some K) fun _ => qm_if (fun _ => qm_some K) fun _ => qm_some K
    refine Ok_bd.mpr ?_
    refine (cameM_eq hV mH M.2.1).mono ?_
    rintro u ⟨b, z, ν2⟩ ⟨hb, hm⟩
    dsimp only at hb hm ⊢
    subst hb hm
    exact Ok_some.mpr ⟨rfl, K⟩
/-- likings are 0 .. 99 -/
theorem pln_tab : ∀ a, a < 10 → ∀ b, b < 10 → Upto 70 ((50 - 5 * iab (nI a - nI b)) + 20) ∧ Upto 70 ((50 - 5 * iab (nI a - nI b)) + 0) := by
  have h : ∀ a, a < 10 → ∀ b, b < 10 → ((50 - 5 * iab (nI a - nI b)) + 20 = nI (50 - 5 * (a - b + (b - a)) + 20) ∧ (50 - 5 * iab (nI a - nI b)) + 0 = nI (50 - 5 * (a - b + (b - a)))) := by decide +kernel
  intro a ha b hb
  exact ⟨⟨_, by omega, (h a ha b hb).1⟩, ⟨_, by omega, (h a ha b hb).2⟩⟩
theorem clp_up {m : Nat} (hm : m < 2 ^ 31) (v : Int64) : Upto m (clp (nI m) v) := by
  unfold clp
  rw [nI_l hm]
  unfold lmx lmn
  by_cases h1 : v < lN m
  · rw [if_pos h1]
    by_cases h2 : v < 0
    · rw [if_pos h2]; exact ⟨0, by omega, rfl⟩
    · rw [if_neg h2]
      have a1 : v.toInt < (m : Int) := by rw [← lN_toInt hm]; exact Int64.lt_iff_toInt_lt.mp h1
      have a2 : 0 ≤ v.toInt := by
        have := Int64.le_iff_toInt_le.mp (Int64.not_lt.mp h2)
        rwa [show (0 : Int64).toInt = 0 by decide] at this
      refine ⟨v.toInt.toNat, by omega, ?_⟩
      have e : v = lN v.toInt.toNat := Int64.toInt_inj.mp (by rw [lN_toInt (by omega)]; omega)
      conv => lhs; rw [e]
      exact lN_i _
  · rw [if_neg h1]
    by_cases h2 : lN m < 0
    · rw [if_pos h2]; exact ⟨0, by omega, rfl⟩
    · rw [if_neg h2]; exact ⟨m, Nat.le_refl _, lN_i m⟩
theorem lkv_up {V : HV} (hV : HW V) {d t : Nat} (ht : t < V.1 2) {ta g mo wm : Int32} (h : Upto 9 ta) : Upto 99 (lkv V d t ta g mo wm) := by
  unfold lkv
  split
  · obtain ⟨a, ha, ea⟩ := (hV.2.2.2.2.2.2.1 t ht).2.2
    obtain ⟨b, hb, eb⟩ := h
    have := pln_tab a (by omega) b (by omega)
    unfold pln
    rw [ea, eb]
    split
    · obtain ⟨j, hj, e⟩ := this.1; exact ⟨j, by omega, e⟩
    · obtain ⟨j, hj, e⟩ := this.2; exact ⟨j, by omega, e⟩
  · exact clp_up (m := 99) (by decide) _
theorem sumN_up99 {f : Nat → Int32} : ∀ {n : Nat}, n ≤ 100 → (∀ i, i < n → Upto 99 (f i)) → Upto (99 * n) (sumN n f)
  | 0, _, _ => ⟨0, by omega, rfl⟩
  | n + 1, hn, h => by
    obtain ⟨a, ha, ea⟩ := sumN_up99 (by omega) (fun i hi => h i (Nat.lt_succ_of_lt hi))
    obtain ⟨b, hb, eb⟩ := h n (by omega)
    refine ⟨a + b, by omega, ?_⟩
    show sumN n f + f n = _
    rw [ea, eb, nI_add]
end Sim4
