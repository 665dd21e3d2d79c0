/-! Mondays ahead -/
section Sim9
theorem copyM {ν : fMem} {V : HV} {S : SV} {X : RX} (hV : HW V) (hS : SR V S) (hX : XW V X) (M : RM ν V S X) : Ok (f_X11_copies 181 1 0 ν) (fun _ ν' => Mrp ν' V 1 S (V.2.1 3) 0 (-1) (-1) ∧ KR ν ν' ∧ RM ν' V S X) := by
  have h8 : V.1 2 ≤ 8 := hV.2.2.1
  refine (copies_spec (x := 0) (y := 1) (by omega) (by omega) (by omega)).mono ?_
  rintro - ν1 ⟨K, cp⟩
  have M1 := M.kr hV hX (Kx.pr K)
  have P := M1.mrp hV hS
  exact ⟨⟨hV, hS.w, M1.1, M.2.1.cpd h8 cp, P.2.2.2.2.1, by omega⟩, Kx.pr K, M1⟩
theorem PK.ke {μ μ' : fMem} {V : HV} {S S' : SV} (K : PK 78 V μ μ' S S') : KE μ μ' := KE.kp K.1 sV_E
theorem difI {a b c : Int32} (h : a + b = 0 + c) : a = c - b := by
  rw [Int32.zero_add] at h
  rw [← h, Int32.add_sub_cancel]
abbrev pS (V : HV) (S : SV) (n : Nat) : SV := (passS V (V.2.1 3) (-1) 0 0 n (S, 0)).1
theorem runC {μ : fMem} {V : HV} {S : SV} {X : RX} {h n : Nat} (hV : HW V) (hS : SR V S) (C : RC μ V S X h) (hn : n ≤ 200) {k : Unit → fMem → Option (Int32 × fMem)} {Q : Int32 → fMem → Prop} (H : ∀ μ2, Crp μ2 V h 78 (pS V S n) (V.2.1 3) (-1) 0 0 (passS V (V.2.1 3) (-1) 0 0 n (S, 0)).2 → KE μ μ2 → μ2.1 84 0 = sumN (V.1 2) (pS V S n 1) - sumN (V.1 2) (S 1) → μ2.1 84 1 = sumN (V.1 2) (pS V S n 2) - sumN (V.1 2) (S 2) → Ok (k () μ2) Q) : Ok (bd (f_X10_tryFromNow 0 μ) fun _ μ1 => bd (f_X0_pass 84 (nI n) μ1) k) Q := by
  obtain ⟨m, hm, em⟩ := hS.2.1
  rw [Ok_bd]
  refine (try_spec hV hS C).mono ?_
  rintro - μ1 ⟨C1, P1, K1, e0, e1⟩
  rw [Ok_bd]
  refine (pass_spec (C1.crp P1) (n := n) hn em (by omega)).mono ?_
  rintro - μ2 ⟨C2, K2⟩
  refine H μ2 C2 (K1.trans K2.ke) (difI ?_) (difI ?_)
  · rw [← e0]; exact K2.2.1
  · rw [← e1]; exact K2.2.2.1
theorem runM {ν : fMem} {V : HV} {S : SV} {X : RX} {n : Nat} (hV : HW V) (hS : SR V S) (hX : XW V X) (M : RM ν V S X) (hn : n ≤ 200) : Ok (f_X11_runs 181 (nI n) ν) (fun _ ν' => MSt ν' 1 V (pS V S n) 0 (-1) ∧ KR ν ν' ∧ RM ν' V S X) := by
  obtain ⟨m, hm, em⟩ := hS.2.1
  unfold f_X11_runs
  rw [Ok_bd]
  refine (copyM hV hS hX M).mono ?_
  rintro - ν1 ⟨P1, K1, M1⟩
  rw [Ok_bd]
  refine (goesOn_spec P1 em hn (by omega)).mono ?_
  rintro - ν2 ⟨S2, P2, K2, a1, a2⟩
  have e : S2 = pS V S n := by rw [a1 (by decide), abO_0, alO_0]
  rw [e] at P2
  exact Ok_some.mpr ⟨P2.2.2.2.1, K1.trans K2.r, M1.kr hV hX K2.r⟩
theorem sim_ahead (a b c : Int32) : Sim Rel (f_X10_ahead 0 a b c) (f_X11_ahead 181 a b c) := by
  refine simQ fun μ ν V S X h hV hS hX C M => ?_
  have cc := C.2.2.2.2.2.1
  have h8 : V.1 2 ≤ 8 := hV.2.2.1
  by_cases a0 : a < 0
  · refine ⟨-1, ?_, ?_⟩
    · unfold f_X10_ahead; rw [if_pos a0]; exact qc_some cc
    · unfold f_X11_ahead
      refine qm_th hV hX M fun ν1 K M => ?_
      rw [if_pos a0]; exact qm_some K
  by_cases a60 : 60 < a
  · refine ⟨-1, ?_, ?_⟩
    · unfold f_X10_ahead; rw [if_neg a0, if_pos a60]; exact qc_some cc
    · unfold f_X11_ahead
      refine qm_th hV hX M fun ν1 K M => ?_
      rw [if_neg a0, if_pos a60]; exact qm_some K
  by_cases b0 : b < 0
  · refine ⟨-1, ?_, ?_⟩
    · unfold f_X10_ahead; rw [if_neg a0, if_neg a60, if_pos b0]; exact qc_some cc
    · unfold f_X11_ahead
      refine qm_th hV hX M fun ν1 K M => ?_
      rw [if_neg a0, if_neg a60, if_pos b0]; exact qm_some K
  by_cases b2 : b ≤ 2
  rotate_left
  · refine ⟨-1, ?_, ?_⟩
    · unfold f_X10_ahead; rw [if_neg a0, if_neg a60, if_neg b0, if_neg b2]; exact qc_some cc
    · unfold f_X11_ahead
      refine qm_th hV hX M fun ν1 K M => ?_
      rw [if_neg a0, if_neg a60, if_neg b0, if_pos (Int32.not_le.mp b2)]; exact qm_some K
  obtain ⟨n, hn, rfl⟩ := nI_of2 (x := a) (M := 60) (n := 60) (by decide) a0 (Int32.not_lt.mp a60)
  by_cases bz : b = 0
  · by_cases ct : hs (V.1 2) c
    rotate_left
    · refine ⟨-1, ?_, ?_⟩
      · unfold f_X10_ahead
        rw [if_neg a0, if_neg a60, if_neg b0, if_pos b2, if_pos bz]
        refine qc_h C ?_
        rw [has2 C.2.2.2.1, bd_some, if_neg ct, if_pos rfl]; exact qc_some cc
      · unfold f_X11_ahead
        refine qm_th hV hX M fun ν1 K M => ?_
        rw [if_neg a0, if_neg a60, if_neg b0, if_neg (Int32.not_lt.mpr b2), if_pos bz, isThing_eq M.1, bd_some, if_neg ct, if_pos rfl]; exact qm_some K
    obtain ⟨t, ht, rfl⟩ := hs_ex ct (by omega)
    refine ⟨pS V S n 0 t, ?_, ?_⟩
    · unfold f_X10_ahead f_X10_ahead_j39
      rw [if_neg a0, if_neg a60, if_neg b0, if_pos b2, if_pos bz]
      refine qc_h C ?_
      simp only [Nat.reduceAdd]
      rw [has2 C.2.2.2.1, bd_some, if_pos ct, if_neg (by decide)]
      refine runC hV hS C (by omega) fun μ2 C2 K2 e0 e1 => ?_
      rw [if_pos bz, gd_t (ixN (by omega) (by omega)), nI_clamp (by omega), C2.2.2.2.1.1 t ht]
      exact Ok_some.mpr ⟨rfl, K2, C2.2.2.2.2.2⟩
    · unfold f_X11_ahead f_X11_ahead_j38
      refine qm_th hV hX M fun ν1 K M => ?_
      simp only [Nat.reduceAdd]
      rw [if_neg a0, if_neg a60, if_neg b0, if_neg (Int32.not_lt.mpr b2), if_pos bz, isThing_eq M.1, bd_some, if_pos ct, if_neg (by decide)]
      refine Ok_bd.mpr ((runM hV hS hX M (by omega)).mono ?_)
      rintro - ν2 ⟨m2, K2, M2⟩
      have e := m2.1 t ht
      rw [if_neg (fun z => absurd z.1 (by decide))] at e
      rw [if_pos bz, show (8 : Int32) + nI t = nI (8 * 1 + t) from nI_add 8 t, gd_t (ixN (by omega) (by omega)), nI_clamp (by omega), e]
      exact Ok_some.mpr ⟨rfl, K.trans K2⟩
  · by_cases b1 : b = 1
    · refine ⟨sumN (V.1 2) (pS V S n 1) - sumN (V.1 2) (S 1), ?_, ?_⟩
      · unfold f_X10_ahead f_X10_ahead_j39
        simp only [Nat.reduceAdd]
        rw [if_neg a0, if_neg a60, if_neg b0, if_pos b2, if_neg bz]
        refine runC hV hS C (by omega) fun μ2 C2 K2 e0 e1 => ?_
        rw [if_neg bz, if_pos b1, e0]
        exact Ok_some.mpr ⟨rfl, K2, C2.2.2.2.2.2⟩
      · unfold f_X11_ahead f_X11_ahead_j38
        refine qm_th hV hX M fun ν1 K M => ?_
        simp only [Nat.reduceAdd]
        rw [if_neg a0, if_neg a60, if_neg b0, if_neg (Int32.not_lt.mpr b2), if_neg bz]
        refine Ok_bd.mpr ((runM hV hS hX M (by omega)).mono ?_)
        rintro - ν2 ⟨m2, K2, M2⟩
        rw [if_neg bz, if_pos b1, show f_X11_sumOf 181 207 1 ν2 = some (sumN (V.1 2) (pS V S n 1), ν2) from sumOf7 (x := 1) M2.1 hV m2 (by decide), bd_some, show f_X11_sumOf 181 207 0 ν2 = some (sumN (V.1 2) (S 1), ν2) from sumOf7 (x := 0) M2.1 hV M2.2.1 (by decide), bd_some]
        exact Ok_some.mpr ⟨rfl, K.trans K2⟩
    · refine ⟨sumN (V.1 2) (pS V S n 2) - sumN (V.1 2) (S 2), ?_, ?_⟩
      · unfold f_X10_ahead f_X10_ahead_j39
        simp only [Nat.reduceAdd]
        rw [if_neg a0, if_neg a60, if_neg b0, if_pos b2, if_neg bz]
        refine runC hV hS C (by omega) fun μ2 C2 K2 e0 e1 => ?_
        rw [if_neg bz, if_neg b1, e1]
        exact Ok_some.mpr ⟨rfl, K2, C2.2.2.2.2.2⟩
      · unfold f_X11_ahead f_X11_ahead_j38
        refine qm_th hV hX M fun ν1 K M => ?_
        simp only [Nat.reduceAdd]
        rw [if_neg a0, if_neg a60, if_neg b0, if_neg (Int32.not_lt.mpr b2), if_neg bz]
        refine Ok_bd.mpr ((runM hV hS hX M (by omega)).mono ?_)
        rintro - ν2 ⟨m2, K2, M2⟩
        rw [if_neg bz, if_neg b1, show f_X11_sumOf 181 208 1 ν2 = some (sumN (V.1 2) (pS V S n 2), ν2) from sumOf8 (x := 1) M2.1 hV m2 (by decide), bd_some, show f_X11_sumOf 181 208 0 ν2 = some (sumN (V.1 2) (S 2), ν2) from sumOf8 (x := 0) M2.1 hV M2.2.1 (by decide), bd_some]
        exact Ok_some.mpr ⟨rfl, K.trans K2⟩
def quS (V : HV) (S : SV) (k : Nat) : Bool := decide (stS V (pS V S (k + 1)) = stS V (pS V S k))
theorem addsub {a b c d s1 s2 : Int32} (h1 : a + s1 = 0 + c) (h2 : b + s2 = 0 + d) : a + b = c + d - (s1 + s2) := by
  rw [Int32.zero_add] at h1 h2
  rw [← h1, ← h2]
  have : a + s1 + (b + s2) = a + b + (s1 + s2) := by
    rw [Int32.add_assoc, Int32.add_assoc]
    congr 1
    rw [← Int32.add_assoc, Int32.add_comm s1 b, Int32.add_assoc]
  rw [this, Int32.add_sub_cancel]
theorem mvs {μ μ' : fMem} {V : HV} {S S' : SV} (K : PK 78 V μ μ' S S') (e0 : μ.1 84 0 = 0) (e1 : μ.1 84 1 = 0) : μ'.1 84 0 + μ'.1 84 1 = stS V S' - stS V S := by
  have a := K.2.1
  have b := K.2.2.1
  rw [e0] at a
  rw [e1] at b
  exact addsub a b
theorem sub_inj {a b c : Int32} : a - c = b - c ↔ a = b := by
  constructor
  · intro h
    have := congrArg (fun z => z + c) h
    simp only [Int32.sub_add_cancel] at this
    exact this
  · rintro rfl; rfl
theorem sim_quiet : Sim Rel (f_X10_quiet 0) (f_X11_quiet 181) := by
  refine simQ fun μ ν V S X h hV hS hX C M => ⟨(match fnd (quS V S) 100 with | none => -2 | some k => nI k), ?_, ?_⟩
  · obtain ⟨m, hm, em⟩ := hS.2.1
    unfold f_X10_quiet
    simp only [Nat.reduceAdd]
    refine Ok_bd.mpr ((try_spec hV hS C).mono ?_)
    rintro - μ1 ⟨C1, P1, K1, e0, e1⟩
    rw [Ok_bd]
    refine Ok.mono (Q := fun u (q : Int32 × fMem) => (KE μ1 q.2 ∧ CC q.2 V) ∧ ((u = 0 ∧ fnd (quS V S) 100 = none) ∨ (¬ u = 0 ∧ ∃ k, fnd (quS V S) 100 = some k ∧ q.1 = nI k))) (Ok_lp 100 (fun i (q : Int32 × fMem) => q.1 = nI i ∧ Crp q.2 V h 78 (pS V S i) (V.2.1 3) (-1) 0 0 (passS V (V.2.1 3) (-1) 0 0 i (S, 0)).2 ∧ PK 78 V μ1 q.2 S (pS V S i) ∧ fnd (quS V S) i = none) (by omega) ⟨rfl, C1.crp P1, PK.rfl', rfl⟩ ?_) ?_
    · rintro i ⟨z, μ2⟩ hi ⟨hz, C2, K2, hn⟩
      dsimp only at hz C2 K2 hn ⊢
      subst hz
      unfold f_X10_quiet_L6
      simp only [Nat.reduceAdd]
      rcases Nat.lt_or_ge i 100 with q | q
      · rw [if_neg (show ¬ 99 < nI i from nI_nlt (a := 99) (by omega) (by omega)), Ok_vl, Ok_bd]
        refine (pass_spec C2 (n := 1) (by omega) (passS_mo V (V.2.1 3) (-1) 0 0 (q := (S, 0)) em i) (by omega)).mono ?_
        rintro - μ3 ⟨C3, K3⟩
        have C3 : Crp μ3 V h 78 (pS V S (i + 1)) (V.2.1 3) (-1) 0 0 (passS V (V.2.1 3) (-1) 0 0 (i + 1) (S, 0)).2 := C3
        have K3 : PK 78 V μ1 μ3 S (pS V S (i + 1)) := K2.trans K3
        have s2 := mvs K2 e0 e1
        have s3 := mvs K3 e0 e1
        rw [s2, s3]
        by_cases c : stS V (pS V S (i + 1)) = stS V (pS V S i)
        · rw [if_pos (sub_inj.mpr c), Ok_some]
          exact Or.inr ⟨1, rfl, ⟨K3.ke, C3.2.2.2.2.2⟩, Or.inr ⟨by decide, i, fnd_le (a := 0) hn (decide_eq_true c) 100 q, rfl⟩⟩
        · rw [if_neg (fun z => c (sub_inj.mp z)), Ok_vl, nI_1, Ok_some]
          refine Or.inl ⟨rfl, q, rfl, C3, K3, ?_⟩
          unfold fnd
          rw [hn]
          simp [quS, c]
      · have : i = 100 := by omega
        subst this
        rw [if_pos (show 99 < nI 100 by decide), Ok_some]
        exact Or.inr ⟨0, rfl, ⟨K2.ke, C2.2.2.2.2.2⟩, Or.inl ⟨rfl, hn⟩⟩
    · rintro u ⟨z, μ2⟩ ⟨⟨K2, c2⟩, hq⟩
      dsimp only at K2 c2 hq ⊢
      rcases hq with ⟨rfl, hn⟩ | ⟨hu, k, hk, rfl⟩
      · rw [if_pos rfl, Ok_some, hn]; exact ⟨rfl, K1.trans K2, c2⟩
      · rw [if_neg hu, Ok_some, hk]; exact ⟨rfl, K1.trans K2, c2⟩
  · obtain ⟨m, hm, em⟩ := hS.2.1
    unfold f_X11_quiet
    refine qm_th hV hX M fun ν1 K M => ?_
    refine Ok_bd.mpr ((copyM hV hS hX M).mono ?_)
    rintro - ν2 ⟨P2, K2, M2⟩
    rw [Ok_bd]
    refine Ok.mono (Q := fun u (q : Int32 × fMem) => KX 1 ν2 q.2 ∧ ((u = 0 ∧ fnd (quS V S) 100 = none) ∨ (¬ u = 0 ∧ ∃ k, fnd (quS V S) 100 = some k ∧ q.1 = nI k))) (Ok_lp 100 (fun i (q : Int32 × fMem) => q.1 = nI i ∧ Mrp q.2 V 1 (pS V S i) (V.2.1 3) 0 (-1) (-1) ∧ KX 1 ν2 q.2 ∧ fnd (quS V S) i = none) (by omega) ⟨rfl, P2, Kx.rfl', rfl⟩ ?_) ?_
    · rintro i ⟨z, ν3⟩ hi ⟨hz, P3, K3, hn⟩
      dsimp only at hz P3 K3 hn ⊢
      subst hz
      unfold f_X11_quiet_L13
      rcases Nat.lt_or_ge i 100 with q | q
      · rw [if_neg (show ¬ 99 < nI i from nI_nlt (a := 99) (by omega) (by omega)), show f_X11_stirs 181 1 ν3 = some (stS V (pS V S i), ν3) from stirs_eq (x := 1) P3.2.2.1 hV P3.2.2.2.1 (by decide), bd_some, Ok_bd]
        refine (passes_spec P3 (passS_mo V (V.2.1 3) (-1) 0 0 (q := (S, 0)) em i) (by omega)).mono ?_
        rintro - ν4 ⟨S4, P4, K4, a1, a2, a3⟩
        have e : S4 = pS V S (i + 1) := by
          rw [a1 (by decide), abO_0, alO_0]
          show _ = (dayS V (V.2.1 3) (-1) 0 0 (passS V (V.2.1 3) (-1) 0 0 i (S, 0))).1
          unfold dayS gOf gM
          rw [if_pos rfl, if_pos rfl]
        rw [e] at P4
        rw [show f_X11_stirs 181 1 ν4 = some (stS V (pS V S (i + 1)), ν4) from stirs_eq (x := 1) P4.2.2.1 hV P4.2.2.2.1 (by decide), bd_some]
        by_cases c : stS V (pS V S (i + 1)) = stS V (pS V S i)
        · rw [if_pos c, Ok_some]
          exact Or.inr ⟨1, rfl, K3.trans K4, Or.inr ⟨by decide, i, fnd_le (a := 0) hn (decide_eq_true c) 100 q, rfl⟩⟩
        · rw [if_neg c, Ok_vl, nI_1, Ok_some]
          refine Or.inl ⟨rfl, q, rfl, P4, K3.trans K4, ?_⟩
          unfold fnd
          rw [hn]
          simp [quS, c]
      · have : i = 100 := by omega
        subst this
        rw [if_pos (show 99 < nI 100 by decide), Ok_some]
        exact Or.inr ⟨0, rfl, K3, Or.inl ⟨rfl, hn⟩⟩
    · rintro u ⟨z, ν3⟩ ⟨K3, hq⟩
      dsimp only at K3 hq ⊢
      rcases hq with ⟨rfl, hn⟩ | ⟨hu, k, hk, rfl⟩
      · rw [if_pos rfl, Ok_some, hn]; exact ⟨rfl, K.trans (K2.trans K3.r)⟩
      · rw [if_neg hu, Ok_some, hk]; exact ⟨rfl, K.trans (K2.trans K3.r)⟩
/-- the first of the least -/
def lst (f : Nat → Int32) : Nat → Nat
  | 0 => 0
  | n + 1 => if n = 0 ∨ f n < f (lst f n) then n else lst f n
theorem lst_lt {f : Nat → Int32} : ∀ {n : Nat}, 0 < n → lst f n < n
  | 0, h => by omega
  | n + 1, _ => by
    unfold lst
    split
    · omega
    · have := lst_lt (f := f) (n := n) (by omega)
      omega
theorem SR.at {V : HV} {S : SV} (H : SR V S) {t r : Nat} (hr : r < V.1 0) : SR V (up S 0 t (nI r)) := H.put (fun _ => ⟨r, hr, rfl⟩) (Or.inl rfl)
theorem stS_up0 {V : HV} {S : SV} {t : Nat} {v : Int32} : stS V (up S 0 t v) = stS V S := by
  unfold stS
  rw [sumN_upo (by omega), sumN_upo (by omega)]
theorem Crp.put0 {μ : fMem} {V : HV} {h s : Nat} {S : SV} {ts : Nat → Int32} {ab al dr : Int32} {k : Nat} (C : Crp μ V h s S ts ab al dr k) {t : Nat} {v : Int32} (ht : t < V.1 2) (hw : SW V (up S 0 t v)) : Crp (sI μ (s + 1) t v) V h s (up S 0 t v) ts ab al dr k := by
  obtain ⟨c1, c2, c3, c4, c5, c6⟩ := C
  have hh := c5.1
  have hz := c5.2.1
  have zf : ∀ c, ¬ c = s + 1 → (sI μ (s + 1) t v).1 c = μ.1 c := fun c hc => by funext j; rw [sI_i, if_neg (by omega)]
  exact ⟨c1, hw, c3.of fun c a b => zf c (by rcases hh with rfl | rfl <;> rcases hz with rfl | rfl <;> omega), c4.put (i := 0) (by omega) (fun _ => ht) v, c5.of (fun j _ _ => by rw [zf 84 (by rcases hz with rfl | rfl <;> omega)]) rfl rfl, c6.of (zf 122 (by rcases hz with rfl | rfl <;> omega)) rfl⟩
theorem Mrp.put0 {ν : fMem} {V : HV} {x : Nat} {S : SV} {ts : Nat → Int32} {dg : Int32} (M : Mrp ν V x S ts 0 (-1) dg) {t : Nat} {v : Int32} (ht : t < 8) (hw : SW V (up S 0 t v)) : Mrp (sI ν 206 (8 * x + t) v) V x (up S 0 t v) ts 0 (-1) dg := by
  obtain ⟨c1, c2, c3, c4, c5, c6⟩ := M
  exact ⟨c1, hw, c3.of c1 fun c a b j _ => by rw [sI_i, if_neg (by omega)], c4.put8 (i := 0) (by omega) ht v (fun _ z => absurd z.1 (by decide)), c5.of fun j a b => by rw [sI_i, if_neg (by omega)], c6⟩
def lmS (V : HV) (S : SV) (t n r : Nat) : Int32 := stS V (pS V (up S 0 t (nI r)) n) - stS V S
theorem sim_leastMoved (a b c : Int32) : Sim Rel (f_X10_leastMoved 0 a b c) (f_X11_leastMoved 181 a b c) := by
  refine simQ fun μ ν V S X h hV hS hX C M => ?_
  have cc := C.2.2.2.2.2.1
  have h8 : V.1 2 ≤ 8 := hV.2.2.1
  have h6 : V.1 0 ≤ 6 := hV.1
  by_cases ct : hs (V.1 2) a
  rotate_left
  · refine ⟨-1, ?_, ?_⟩
    · unfold f_X10_leastMoved
      refine qc_h C ?_
      rw [has2 C.2.2.2.1, bd_some, if_neg ct, if_pos rfl]; exact qc_some cc
    · unfold f_X11_leastMoved
      refine qm_th hV hX M fun ν1 K M => ?_
      rw [isThing_eq M.1, bd_some, if_neg ct, if_pos rfl]; exact qm_some K
  by_cases b1 : b < 1
  · refine ⟨-1, ?_, ?_⟩
    · unfold f_X10_leastMoved
      refine qc_h C ?_
      rw [has2 C.2.2.2.1, bd_some, if_pos ct, if_neg (by decide), if_pos b1]; exact qc_some cc
    · unfold f_X11_leastMoved
      refine qm_th hV hX M fun ν1 K M => ?_
      rw [isThing_eq M.1, bd_some, if_pos ct, if_neg (by decide), if_pos b1]; exact qm_some K
  by_cases b60 : 60 < b
  · refine ⟨-1, ?_, ?_⟩
    · unfold f_X10_leastMoved
      refine qc_h C ?_
      rw [has2 C.2.2.2.1, bd_some, if_pos ct, if_neg (by decide), if_neg b1, if_pos b60]; exact qc_some cc
    · unfold f_X11_leastMoved
      refine qm_th hV hX M fun ν1 K M => ?_
      rw [isThing_eq M.1, bd_some, if_pos ct, if_neg (by decide), if_neg b1, if_pos b60]; exact qm_some K
  by_cases c0 : c < 0
  · refine ⟨-1, ?_, ?_⟩
    · unfold f_X10_leastMoved
      refine qc_h C ?_
      rw [has2 C.2.2.2.1, bd_some, if_pos ct, if_neg (by decide), if_neg b1, if_neg b60, if_pos c0]; exact qc_some cc
    · unfold f_X11_leastMoved
      refine qm_th hV hX M fun ν1 K M => ?_
      rw [isThing_eq M.1, bd_some, if_pos ct, if_neg (by decide), if_neg b1, if_neg b60, if_pos c0]; exact qm_some K
  by_cases c1 : c ≤ 1
  rotate_left
  · refine ⟨-1, ?_, ?_⟩
    · unfold f_X10_leastMoved
      refine qc_h C ?_
      rw [has2 C.2.2.2.1, bd_some, if_pos ct, if_neg (by decide), if_neg b1, if_neg b60, if_neg c0, if_neg c1]; exact qc_some cc
    · unfold f_X11_leastMoved
      refine qm_th hV hX M fun ν1 K M => ?_
      rw [isThing_eq M.1, bd_some, if_pos ct, if_neg (by decide), if_neg b1, if_neg b60, if_neg c0, if_neg c1]; exact qm_some K
  obtain ⟨t, ht, rfl⟩ := hs_ex ct (by omega)
  obtain ⟨n, hn, rfl⟩ := nI_of2 (x := b) (M := 60) (n := 60) (by decide) (fun q => b1 (Int32.lt_trans q (by decide))) (Int32.not_lt.mp b60)
  obtain ⟨m, hm, em⟩ := hS.2.1
  have r0 : 0 < V.1 0 := by
    obtain ⟨r, hr, -⟩ := (hV.2.2.2.2.2.2.1 t ht).1
    omega
  have em0 : ∀ r, up S 0 t (nI r) 6 0 = nI m := fun r => by rw [up_ne (by omega)]; exact em
  refine ⟨if c = 0 then nI (lst (lmS V S t n) (V.1 0)) else lmS V S t n (lst (lmS V S t n) (V.1 0)), ?_, ?_⟩
  · unfold f_X10_leastMoved
    refine qc_h C ?_
    rw [has2 C.2.2.2.1, bd_some, if_pos ct, if_neg (by decide), if_neg b1, if_neg b60, if_neg c0, if_pos c1]
    refine Ok_bd.mpr ?_
    refine Ok.mono (Q := fun u (q : Int32 × Int32 × Int32 × fMem) => (q.1 = nI (lst (lmS V S t n) (V.1 0)) ∧ q.2.1 = lmS V S t n (lst (lmS V S t n) (V.1 0))) ∧ KE μ q.2.2.2 ∧ CC q.2.2.2 V) (Ok_lp (V.1 0) (fun i (q : Int32 × Int32 × Int32 × fMem) => q.2.2.1 = nI i ∧ ((i = 0 ∧ q.1 = -1) ∨ (0 < i ∧ q.1 = nI (lst (lmS V S t n) i) ∧ q.2.1 = lmS V S t n (lst (lmS V S t n) i))) ∧ KE μ q.2.2.2 ∧ CC q.2.2.2 V) (by omega) ⟨rfl, Or.inl ⟨rfl, rfl⟩, KE.rfl', cc⟩ ?_) ?_
    · rintro i ⟨b, mo, z, μ2⟩ hi ⟨hz, hb, K2, cc2⟩
      dsimp only at hz hb K2 cc2 ⊢
      subst hz
      have R2 := C.ke K2 cc2
      unfold f_X10_leastMoved_L43
      simp only [Nat.reduceAdd]
      rw [Ok_vl, R2.2.1, gd_t R2.kd, told0 R2.2.2.2.1, bd_some]
      rcases Nat.lt_or_ge i (V.1 0) with q | q
      · rw [if_neg (nI_ge q (by omega)), Ok_bd]
        refine (try_spec hV hS R2).mono ?_
        rintro - μ3 ⟨C3, P3, K3, e0, e1⟩
        have C4 := (C3.crp P3).put0 (v := nI i) ht (hS.at q).w
        have K4 : KE μ3 (sI μ3 79 t (nI i)) := KE.kp (A := [79]) (B := []) (Kp.rfl'.sI (by simp)) (fun k hk => by rw [List.mem_singleton] at hk; omega)
        have f0 : (sI μ3 79 t (nI i)).1 84 0 = 0 := by rw [sI_i, if_neg (by omega)]; exact e0
        have f1 : (sI μ3 79 t (nI i)).1 84 1 = 0 := by rw [sI_i, if_neg (by omega)]; exact e1
        rw [gd_t (ixN (by omega) (by omega)), nI_clamp (by omega), Ok_vl, Ok_bd]
        refine (pass_spec C4 (n := n) (by omega) (em0 i) (by omega)).mono ?_
        rintro - μ5 ⟨C5, K5⟩
        have s5 := mvs K5 f0 f1
        have s6 : μ5.1 84 0 + μ5.1 84 1 = lmS V S t n i := by
          rw [s5, stS_up0]
          rfl
        have KK : KE μ μ5 := ((K2.trans K3).trans K4).trans K5.ke
        have c5 := C5.2.2.2.2.2
        rw [Ok_vl, s6]
        unfold f_X10_leastMoved_j109
        rcases hb with ⟨rfl, rfl⟩ | ⟨hp, rfl, rfl⟩
        · rw [if_pos rfl, Ok_vl, nI_1, Ok_some]
          exact Or.inl ⟨rfl, q, rfl, Or.inr ⟨by omega, rfl, rfl⟩, KK, c5⟩
        · have hl := lst_lt (f := lmS V S t n) hp
          rw [if_neg (nI_nm1 (by omega))]
          by_cases cz : lmS V S t n i < lmS V S t n (lst (lmS V S t n) i)
          · have un : lst (lmS V S t n) (i + 1) = i := by show (if _ then _ else _) = _; rw [if_pos (Or.inr cz)]
            rw [if_neg (Int32.not_le.mpr cz), Ok_vl, nI_1, Ok_some]
            exact Or.inl ⟨rfl, q, rfl, Or.inr ⟨by omega, by rw [un], by rw [un]⟩, KK, c5⟩
          · have un : lst (lmS V S t n) (i + 1) = lst (lmS V S t n) i := by show (if _ then _ else _) = _; rw [if_neg (by rintro (z | z); omega; exact cz z)]
            rw [if_pos (Int32.not_lt.mp cz), Ok_vl, nI_1, Ok_some]
            exact Or.inl ⟨rfl, q, rfl, Or.inr ⟨by omega, by rw [un], by rw [un]⟩, KK, c5⟩
      · rw [if_pos (nI_le q (by omega)), Ok_some]
        have : i = V.1 0 := by omega
        subst this
        rcases hb with ⟨z, -⟩ | ⟨-, e1, e2⟩
        · omega
        · exact Or.inr ⟨0, rfl, ⟨e1, e2⟩, K2, cc2⟩
    · rintro u ⟨b, mo, z, μ2⟩ ⟨⟨hb, hmo⟩, K2, cc2⟩
      dsimp only at hb hmo K2 cc2 ⊢
      subst hb hmo
      by_cases cz : c = 0
      · rw [if_pos cz, if_pos cz]; exact Ok_some.mpr ⟨rfl, K2, cc2⟩
      · rw [if_neg cz, if_neg cz]; exact Ok_some.mpr ⟨rfl, K2, cc2⟩
  · unfold f_X11_leastMoved
    refine qm_th hV hX M fun ν1 K M => ?_
    rw [isThing_eq M.1, bd_some, if_pos ct, if_neg (by decide), if_neg b1, if_neg b60, if_neg c0, if_pos c1]
    refine Ok_bd.mpr ?_
    refine Ok.mono (Q := fun u (q : Int32 × Int32 × Int32 × fMem) => (q.1 = nI (lst (lmS V S t n) (V.1 0)) ∧ q.2.1 = lmS V S t n (lst (lmS V S t n) (V.1 0))) ∧ KR ν1 q.2.2.2) (Ok_lp (V.1 0) (fun i (q : Int32 × Int32 × Int32 × fMem) => q.2.2.1 = nI i ∧ ((i = 0 ∧ q.1 = -1) ∨ (0 < i ∧ q.1 = nI (lst (lmS V S t n) i) ∧ q.2.1 = lmS V S t n (lst (lmS V S t n) i))) ∧ KR ν1 q.2.2.2) (by omega) ⟨rfl, Or.inl ⟨rfl, rfl⟩, Kx.rfl'⟩ ?_) ?_
    · rintro i ⟨b, mo, z, ν2⟩ hi ⟨hz, hb, K2⟩
      dsimp only at hz hb K2 ⊢
      subst hz
      have M2 := M.kr hV hX K2
      unfold f_X11_leastMoved_L44
      simp only [Nat.reduceAdd]
      rw [M2.1.1 0 (by omega)]
      rcases Nat.lt_or_ge i (V.1 0) with q | q
      · rw [if_neg (nI_ge q (by omega)), Ok_bd]
        refine (copyM hV hS hX M2).mono ?_
        rintro - ν3 ⟨P3, K3, M3⟩
        have P4 := P3.put0 (t := t) (v := nI i) (by omega) (hS.at q).w
        have K4 : KR ν3 (sI ν3 206 (8 * 1 + t) (nI i)) := Kx.rfl'.sI (Or.inr (Or.inl (by unfold Px; omega)))
        rw [show (8 : Int32) + nI t = nI (8 * 1 + t) from nI_add 8 t, gd_t (ixN (by omega) (by omega)), nI_clamp (by omega), Ok_vl, Ok_bd]
        refine (goesOn_spec P4 (em0 i) (by omega) (by omega)).mono ?_
        rintro - ν5 ⟨S5, P5, K5, a1, a2⟩
        have e : S5 = pS V (up S 0 t (nI i)) n := by rw [a1 (by decide), abO_0, alO_0]
        rw [e] at P5
        have KK : KR ν1 ν5 := ((K2.trans K3).trans K4).trans K5.r
        have M5 := M.kr hV hX KK
        rw [show f_X11_stirs 181 1 ν5 = some (stS V (pS V (up S 0 t (nI i)) n), ν5) from stirs_eq (x := 1) P5.2.2.1 hV P5.2.2.2.1 (by decide), bd_some, show f_X11_stirs 181 0 ν5 = some (stS V S, ν5) from stirs_eq (x := 0) M5.1 hV M5.2.1 (by decide), bd_some, Ok_vl, show stS V (pS V (up S 0 t (nI i)) n) - stS V S = lmS V S t n i from rfl]
        unfold f_X11_leastMoved_j106
        rcases hb with ⟨rfl, rfl⟩ | ⟨hp, rfl, rfl⟩
        · rw [if_pos rfl, Ok_vl, nI_1, Ok_some]
          exact Or.inl ⟨rfl, q, rfl, Or.inr ⟨by omega, rfl, rfl⟩, KK⟩
        · have hl := lst_lt (f := lmS V S t n) hp
          rw [if_neg (nI_nm1 (by omega))]
          by_cases cz : lmS V S t n i < lmS V S t n (lst (lmS V S t n) i)
          · have un : lst (lmS V S t n) (i + 1) = i := by show (if _ then _ else _) = _; rw [if_pos (Or.inr cz)]
            rw [if_pos cz, Ok_vl, nI_1, Ok_some]
            exact Or.inl ⟨rfl, q, rfl, Or.inr ⟨by omega, by rw [un], by rw [un]⟩, KK⟩
          · have un : lst (lmS V S t n) (i + 1) = lst (lmS V S t n) i := by show (if _ then _ else _) = _; rw [if_neg (by rintro (z | z); omega; exact cz z)]
            rw [if_neg cz, Ok_vl, nI_1, Ok_some]
            exact Or.inl ⟨rfl, q, rfl, Or.inr ⟨by omega, by rw [un], by rw [un]⟩, KK⟩
      · rw [if_pos (nI_le q (by omega)), Ok_some]
        have : i = V.1 0 := by omega
        subst this
        rcases hb with ⟨z, -⟩ | ⟨-, e1, e2⟩
        · omega
        · exact Or.inr ⟨0, rfl, ⟨e1, e2⟩, K2⟩
    · rintro u ⟨b, mo, z, ν2⟩ ⟨⟨hb, hmo⟩, K2⟩
      dsimp only at hb hmo K2 ⊢
      subst hb hmo
      by_cases cz : c = 0
      · rw [if_pos cz, if_pos cz]; exact Ok_some.mpr ⟨rfl, K.trans K2⟩
      · rw [if_neg cz, if_neg cz]; exact Ok_some.mpr ⟨rfl, K.trans K2⟩
end Sim9
