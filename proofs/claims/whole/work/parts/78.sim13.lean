/-! what taste one had, by notes -/
section Sim13
def tsO (V : HV) (d : Nat) (k : Nat) : Nat → Int32 := fun d' => if d' = d then nI k else V.2.1 3 d'
abbrev pT (V : HV) (d k n : Nat) : SV := (passS V (tsO V d k) (-1) 0 0 n (S0 V, 0)).1
def okT (V : HV) (d k : Nat) (f : Nat → Nat → Int32) (s : Nat → Bool) (K i : Nat) : Bool := allB (soB f s (pT V d k (i + 1)) (i + 1)) K
def okA (V : HV) (d k : Nat) (f : Nat → Nat → Int32) (s : Nat → Bool) (K : Nat) : Bool := allB (okT V d k f s K) (mxN f s K)
theorem tsO_ok {V : HV} (hV : HW V) {d k : Nat} (hk : k ≤ 9) {x y : Int32} (hx : x = nI d) (hy : y = nI k) (hd : d < V.1 3) : ∀ d', d' < V.1 3 → Upto 9 (tsO V d k d') ∧ tsO V d k d' = if nI d' = x then y else V.2.1 3 d' := by
  intro d' hd'
  have h6 : V.1 3 ≤ 6 := hV.2.2.2.1
  unfold tsO
  by_cases e : d' = d
  · subst e
    rw [if_pos rfl, if_pos hx.symm, hy]
    exact ⟨⟨k, hk, rfl⟩, rfl⟩
  · rw [if_neg e, if_neg (fun w => e ((nI_eq (by omega) (by omega)).mp (w.trans hx)))]
    exact ⟨(hV.2.2.2.2.2.2.2.1 d' hd').1, rfl⟩
theorem pT_mo (V : HV) (d k n : Nat) : pT V d k n 6 0 = nI n := by
  have := passS_mo V (tsO V d k) (-1) 0 0 (q := (S0 V, 0)) (m := 0) rfl n
  rwa [Nat.zero_add] at this
theorem holdOn_spec {μ : fMem} {V : HV} {h d k : Nat} {N : NT} {K : Nat} (C : Crp μ V h 78 (S0 V) (tsO V d k) (-1) 0 0 0) (hN : NW V N) (H : CN μ N) (hK : knS N = nI K) (hK2 : K ≤ N.1) {s : Nat → Bool} (hs : ∀ j, j < 24 → μ.1 129 j = if s j = true then 1 else 0) : Ok (f_X4_holdOn 123 84 78 μ) (fun r μ' => r = (if okA V d k N.2.1 s K = true then 1 else 0) ∧ Kp (sV 78) (84 :: sB) μ μ' ∧ CC μ' V) := by
  have h8 : V.1 2 ≤ 8 := C.1.2.2.1
  have l30 := mxN_le hN s K hK2
  unfold f_X4_holdOn
  rw [Ok_bd]
  refine (lastC hN H hK hK2 hs 84 78).mono ?_
  rintro u ⟨x, y, μ1⟩ ⟨hx, hm⟩
  dsimp only at hx hm ⊢
  subst hx hm
  rw [Ok_bd]
  refine Ok.mono (Q := fun u (q : Int32 × fMem) => (Kp (sV 78) (84 :: sB) μ1 q.2 ∧ CC q.2 V) ∧ ((u = 0 ∧ okA V d k N.2.1 s K = true) ∨ (¬ u = 0 ∧ okA V d k N.2.1 s K = false))) (Ok_lp (mxN N.2.1 s K) (fun i (q : Int32 × fMem) => q.1 = nI (i + 1) ∧ Crp q.2 V h 78 (pT V d k i) (tsO V d k) (-1) 0 0 (passS V (tsO V d k) (-1) 0 0 i (S0 V, 0)).2 ∧ Kp (sV 78) (84 :: sB) μ1 q.2 ∧ allB (okT V d k N.2.1 s K) i = true) (by omega) ⟨rfl, C, Kp.rfl', rfl⟩ ?_) ?_
  · rintro i ⟨z, μ2⟩ hi ⟨hz, C2, K2, ha⟩
    dsimp only at hz C2 K2 ha ⊢
    subst hz
    unfold f_X4_holdOn_L56
    rcases Nat.lt_or_ge i (mxN N.2.1 s K) with q | q
    · rw [if_neg (nI_nlt (by omega) (by omega)), if_neg (show ¬ 30 < nI (i + 1) from nI_nlt (a := 30) (by omega) (by omega)), Ok_bd]
      refine (pass_spec C2 (n := 1) (by omega) (pT_mo V d k i) (by omega)).mono ?_
      rintro - μ3 ⟨C3, K3⟩
      have C3 : Crp μ3 V h 78 (pT V d k (i + 1)) (tsO V d k) (-1) 0 0 (passS V (tsO V d k) (-1) 0 0 (i + 1) (S0 V, 0)).2 := C3
      have K13 := K2.trans K3.1
      have ne : ∀ c, (123 ≤ c ∧ c ≤ 129) → μ3.1 c = μ1.1 c := fun c hc => K13.2.1 c (by simp only [sV, List.mem_cons, List.not_mem_nil, or_false]; omega)
      rw [areSo_spec h8 hN (H.of fun c a b => ne c (by omega)) hK hK2 (s := s) (fun j hj => by rw [ne 129 (by omega)]; exact hs j hj) C3.2.2.2.1, bd_some]
      cases hc : allB (soB N.2.1 s (pT V d k (i + 1)) (i + 1)) K with
      | true =>
        rw [if_pos rfl, if_neg (by decide), Ok_vl, nI_1, Ok_some]
        exact Or.inl ⟨rfl, q, rfl, C3, K13, allB_step ha hc⟩
      | false =>
        rw [if_pos (show (if false = true then (1 : Int32) else 0) = 0 by decide), Ok_some]
        exact Or.inr ⟨1, rfl, ⟨K13, C3.2.2.2.2.2⟩, Or.inr ⟨by decide, allB_fail (p := okT V d k N.2.1 s K) hc _ q⟩⟩
    · have : i = mxN N.2.1 s K := by omega
      subst this
      rw [if_pos (nI_lt (by omega) (by omega)), Ok_some]
      exact Or.inr ⟨0, rfl, ⟨K2, C2.2.2.2.2.2⟩, Or.inl ⟨rfl, ha⟩⟩
  · rintro u ⟨z, μ2⟩ ⟨⟨K2, c2⟩, hq⟩
    dsimp only at K2 c2 hq ⊢
    rcases hq with ⟨rfl, h⟩ | ⟨hu, h⟩
    · rw [if_pos rfl, gd_t (Or.inr rfl), Ok_some, h]; exact ⟨rfl, K2, c2⟩
    · rw [if_neg hu, gd_t (Or.inl rfl), Ok_some, h]; exact ⟨rfl, K2, c2⟩
theorem fitsTaste_spec {ν : fMem} {V : HV} {d k : Nat} {N : NT} {K : Nat} (hV : HW V) (mH : MH ν V) (P : MP ν V (tsO V d k) 0 (-1) (-1)) (hN : NW V N) (H : MN ν N) (hK : knS N = nI K) (hK2 : K ≤ N.1) {s : Nat → Bool} (hs : ∀ j, j < K → ν.1 220 j = if s j = true then 1 else 0) : Ok (f_X11_fitsTaste 181 (nI (mxN N.2.1 s K)) ν) (fun r ν' => r = (if okA V d k N.2.1 s K = true then 1 else 0) ∧ KX 1 ν ν') := by
  have h8 : V.1 2 ≤ 8 := hV.2.2.1
  have l30 := mxN_le hN s K hK2
  unfold f_X11_fitsTaste
  rw [Ok_bd]
  refine (starts_spec (y := 1) hV mH (by omega)).mono ?_
  rintro - ν1 ⟨K1, m1⟩
  have K1 : KX 1 ν ν1 := K1.wide (fun _ _ z => Or.inr z) (fun _ _ z => absurd z id)
  have P1 : Mrp ν1 V 1 (S0 V) (tsO V d k) 0 (-1) (-1) := ⟨hV, S0_SW hV, mH.of hV (fun c a b j _ => K1.2.1 c j (by unfold AX Px; omega)), m1, P.of (fun j a b => K1.2.1 181 j (by unfold AX Px; omega)), by omega⟩
  rw [Ok_bd]
  refine Ok.mono (Q := fun u (q : Int32 × fMem) => KX 1 ν q.2 ∧ ((u = 0 ∧ okA V d k N.2.1 s K = true) ∨ (¬ u = 0 ∧ okA V d k N.2.1 s K = false))) (Ok_lp (mxN N.2.1 s K) (fun i (q : Int32 × fMem) => q.1 = nI (i + 1) ∧ Mrp q.2 V 1 (pT V d k i) (tsO V d k) 0 (-1) (-1) ∧ KX 1 ν q.2 ∧ allB (okT V d k N.2.1 s K) i = true) (by omega) ⟨rfl, P1, K1, rfl⟩ ?_) ?_
  · rintro i ⟨z, ν2⟩ hi ⟨hz, P2, K2, ha⟩
    dsimp only at hz P2 K2 ha ⊢
    subst hz
    unfold f_X11_fitsTaste_L7
    rcases Nat.lt_or_ge i (mxN N.2.1 s K) with q | q
    · rw [if_neg (nI_nlt (by omega) (by omega)), Ok_bd]
      refine (passes_spec P2 (pT_mo V d k i) (by omega)).mono ?_
      rintro - ν3 ⟨S3, P3, K3, a1, a2, a3⟩
      have e : S3 = pT V d k (i + 1) := by
        rw [a1 (by decide), abO_0, alO_0]
        show _ = (dayS V (tsO V d k) (-1) 0 0 (passS V (tsO V d k) (-1) 0 0 i (S0 V, 0))).1
        unfold dayS gOf gM
        rw [if_pos rfl, if_pos rfl]
      rw [e] at P3
      have K13 := K2.trans K3
      rw [isSo_spec h8 hN (H.of (fun j a b => K13.2.1 _ _ (by unfold AX Px; omega)) (fun c j a b => K13.2.1 _ _ (by unfold AX Px; omega))) hK hK2 (s := s) (fun j hj => by rw [K13.2.1 _ _ (by unfold AX Px; omega)]; exact hs j hj) P3.2.2.2.1, bd_some]
      cases hc : allB (soB N.2.1 s (pT V d k (i + 1)) (i + 1)) K with
      | true =>
        rw [if_pos rfl, if_neg (by decide), Ok_vl, nI_1, Ok_some]
        exact Or.inl ⟨rfl, q, rfl, P3, K13, allB_step ha hc⟩
      | false =>
        rw [if_pos (show (if false = true then (1 : Int32) else 0) = 0 by decide), Ok_some]
        exact Or.inr ⟨1, rfl, K13, Or.inr ⟨by decide, allB_fail (p := okT V d k N.2.1 s K) hc _ q⟩⟩
    · have : i = mxN N.2.1 s K := by omega
      subst this
      rw [if_pos (nI_lt (by omega) (by omega)), Ok_some]
      exact Or.inr ⟨0, rfl, K2, Or.inl ⟨rfl, ha⟩⟩
  · rintro u ⟨z, ν2⟩ ⟨K2, hq⟩
    dsimp only at K2 hq ⊢
    rcases hq with ⟨rfl, h⟩ | ⟨hu, h⟩
    · rw [if_pos rfl, gd_t (Or.inr rfl), Ok_some, h]; exact ⟨rfl, K2⟩
    · rw [if_neg hu, gd_t (Or.inl rfl), Ok_some, h]; exact ⟨rfl, K2⟩
theorem RM.k51 {ν ν' : fMem} {V : HV} {S : SV} {X : RX} (hV : HW V) (hX : XW V X) (H : RM ν V S X) (e : ∀ c j, ¬ AE c j → ¬ (c = 181 ∧ j = 51) → ν'.1 c j = ν.1 c j) : RM ν' V S X := by
  have v8 : V.1 2 ≤ 8 := hV.2.2.1
  have kl : ∀ j, ¬ (j = 0 ∨ j = 36 ∨ j = 53 ∨ j = 51) → ν'.1 181 j = ν.1 181 j := fun j hj => e 181 j (by unfold AE Px; omega) (by omega)
  refine H.to hV (fun c j a b => e c j (by unfold AE Px; omega) (by omega)) (fun j hj => kl j (by omega)) (H.2.1.of v8 (fun c a b j hj => e c _ (by unfold AE Px; omega) (by omega)) (fun c a b j hj => e c _ (by unfold AE Px; omega) (by omega)) (e _ _ (by unfold AE Px; omega) (by omega)) (e _ _ (by unfold AE Px; omega) (by omega))) (MI.of v8 (kl 45 (by omega)) (fun c j q => e c j (by unfold AE; unfold Px at q ⊢; omega) (by unfold Px at q; omega)) H.2.2.2.1) ⟨by rw [kl 46 (by omega)]; exact H.2.2.2.2.1.1, MUr.of v8 (fun c y j a b q => e c j (by unfold AE; unfold Px at q ⊢; omega) (by unfold Px at q; omega)) hX.2.1.1 H.2.2.2.2.1.2⟩ (MN.of (fun j a b => kl j (by omega)) (fun c j a b => e c j (by unfold AE Px; omega) (by omega)) H.2.2.2.2.2.1) ⟨by rw [kl 2 (by omega)]; exact H.2.2.2.2.2.2.1.1, fun j hj => by rw [e 182 j (by unfold AE Px; omega) (by omega)]; exact H.2.2.2.2.2.2.1.2 j hj⟩ rfl
theorem QC.rc {α : Type} {x : Option (α × fMem)} {μ : fMem} {V : HV} {S : SV} {X : RX} {h : Nat} {a : α} (C : RC μ V S X h) (H : QC x μ V a) : RCo x V S X h a := H.mono fun _ _ q => ⟨q.1, C.ke q.2.1 q.2.2⟩
theorem sim_tastes (a : Int32) : Sim Rel (f_X10_tastes 0 a) (f_X11_tastes 181 a) := by
  refine simX fun μ ν V S X h hV hS hX C M => ?_
  have cc := C.2.2.2.2.2.1
  have h6 : V.1 3 ≤ 6 := hV.2.2.2.1
  have M0 := rm_th hV hX M
  by_cases ca : hs (V.1 3) a
  rotate_left
  · refine ⟨-1, S, X, hS, hX, ?_, ?_⟩
    · unfold f_X10_tastes
      refine rc_h C ?_
      rw [has3 C.2.2.2.1, bd_some, if_neg ca, if_pos rfl]; exact rcq C
    · unfold f_X11_tastes
      show Ok _ _
      rw [Ok_vl, isDead_eq M0.1, bd_some, if_neg ca, if_pos rfl]; exact rmq M0
  obtain ⟨d, hd, rfl⟩ := hs_ex ca (by omega)
  have hN := hX.2.2.1
  have cN := C.2.2.2.2.2.2.2.2.1
  obtain ⟨K, hK2, hK⟩ := knS_ex hN
  have h24 := hN.1
  generalize hNN : X.2.2.1 = N at hN cN hK hK2 h24
  have l30 := mxN_le hN (sk N.2.1 K) K hK2
  refine ⟨orN (fun k => okA V d k N.2.1 (sk N.2.1 K) K) 10, S, X, hS, hX, QC.rc C ?_, ?_⟩
  · unfold f_X10_tastes
    refine qc_h C ?_
    simp only [Nat.reduceAdd]
    rw [has3 C.2.2.2.1, bd_some, if_pos ca, if_neg (by decide)]
    refine Ok_bd.mpr ((strike_spec hN cN hK hK2).mono ?_)
    rintro - μ1 ⟨K1, s1⟩
    have E1 : KE μ μ1 := KE.kp K1 (fun k hk => by rw [List.mem_singleton] at hk; omega)
    have cc1 : CC μ1 V := cc.of (K1.2.1 122 (by simp)) (K1.2.2 121 (List.not_mem_nil))
    rw [Ok_bd]
    refine Ok.mono (Q := fun u (q : Int32 × Int32 × fMem) => q.1 = orN (fun k => okA V d k N.2.1 (sk N.2.1 K) K) 10 ∧ KE μ q.2.2 ∧ CC q.2.2 V) (Ok_lp 10 (fun k (q : Int32 × Int32 × fMem) => q.2.1 = nI k ∧ q.1 = orN (fun k => okA V d k N.2.1 (sk N.2.1 K) K) k ∧ (KE μ q.2.2 ∧ CC q.2.2 V) ∧ ∀ j, j < 24 → q.2.2.1 129 j = if sk N.2.1 K j = true then 1 else 0) (by omega) ⟨rfl, rfl, ⟨E1, cc1⟩, s1⟩ ?_) ?_
    · rintro k ⟨b, z, μ2⟩ hk ⟨hz, hb, ⟨E2, cc2⟩, s2⟩
      dsimp only at hz hb E2 cc2 s2 ⊢
      subst hz hb
      have R2 := C.ke E2 cc2
      unfold f_X10_tastes_L25
      simp only [Nat.reduceAdd]
      rcases Nat.lt_or_ge k 10 with q | q
      · rw [if_neg (show ¬ 9 < nI k from nI_nlt (a := 9) (by omega) (by omega)), Ok_vl, R2.2.1, gd_t R2.kd, Ok_bd]
        refine (enter_spec hV R2.2.2.2.1 R2.1 (s := 78) (Or.inr rfl)).mono ?_
        rintro - μ3 ⟨c3, K3⟩
        have E3 : KE μ2 μ3 := KE.kp K3 (fun k hk => by simp only [sS, List.mem_cons, List.not_mem_nil, or_false] at hk; omega)
        have cc3 : CC μ3 V := cc2.of (K3.2.1 122 (by simp [sS])) (K3.2.2 121 (List.not_mem_nil))
        have R3 := R2.ke E3 cc3
        rw [Ok_vl, R3.2.1, gd_t R3.kd, Ok_bd]
        refine (begin_spec hV (S0_SW hV) R3.1 (Or.inr rfl) R3.2.2.2.1 c3 R3.2.2.2.2.2.1).mono ?_
        rintro - μ4 ⟨C4, P4, a4, b4, -, -⟩
        have E4 : KE μ3 μ4 := KE.b a4 b4
        rw [Ok_vl, Ok_vl]
        have zf : ∀ c, ¬ c = 84 → (sI (sI μ4 84 4 (nI d)) 84 5 (nI k)).1 c = μ4.1 c := fun c hc => by funext j; rw [sI_i, if_neg (by omega), sI_i, if_neg (by omega)]
        have z4 : (sI (sI μ4 84 4 (nI d)) 84 5 (nI k)).1 84 4 = nI d := by rw [sI_i, if_neg (by omega), sI_i, if_pos ⟨rfl, rfl⟩]
        have z5 : (sI (sI μ4 84 4 (nI d)) 84 5 (nI k)).1 84 5 = nI k := by rw [sI_i, if_pos ⟨rfl, rfl⟩]
        have zj : ∀ j, ¬ (j = 4 ∨ j = 5) → (sI (sI μ4 84 4 (nI d)) 84 5 (nI k)).1 84 j = μ4.1 84 j := fun j hj => by rw [sI_i, if_neg (by omega), sI_i, if_neg (by omega)]
        have E5 : KE μ4 (sI (sI μ4 84 4 (nI d)) 84 5 (nI k)) := ⟨fun k hk => zf k (by omega), fun _ _ _ => rfl⟩
        have C5 : Crp (sI (sI μ4 84 4 (nI d)) 84 5 (nI k)) V h 78 (S0 V) (tsO V d k) (-1) 0 0 0 := by
          obtain ⟨d1, d2, d3, d4, d5, d6, d7, d8, d9⟩ := P4
          refine ⟨hV, S0_SW hV, C4.2.2.1.of fun c a b => zf c (by rcases d1 with rfl | rfl <;> omega), C4.2.2.2.1.of fun c a b => zf c (by omega), ⟨d1, d2, d3, d4, tsO_ok hV (by omega) z4 z5 hd, ?_, ?_, ?_, fun z => absurd rfl z⟩, C4.2.2.2.2.2.of (zf 122 (by omega)) rfl⟩
          · rw [zj 2 (by omega)]; exact d6
          · rw [zj 3 (by omega)]; exact d7
          · rw [zj 7 (by omega)]; exact d8
        have n5 : ∀ c, 123 ≤ c ∧ c ≤ 129 → (sI (sI μ4 84 4 (nI d)) 84 5 (nI k)).1 c = μ2.1 c := fun c hc => by rw [zf c (by omega), a4 c (by omega)]; exact K3.2.1 c (by simp only [sS, List.mem_cons, List.not_mem_nil, or_false]; omega)
        have cn5 : CN (sI (sI μ4 84 4 (nI d)) 84 5 (nI k)) N := by
          have := R2.2.2.2.2.2.2.2.2.1
          rw [hNN] at this
          exact this.of fun c a b => n5 c (by omega)
        generalize sI (sI μ4 84 4 (nI d)) 84 5 (nI k) = μ5 at C5 n5 cn5 E5
        rw [Ok_bd]
        refine (holdOn_spec C5 hN cn5 hK hK2 (s := sk N.2.1 K) (fun j hj => by rw [n5 129 (by omega)]; exact s2 j hj)).mono ?_
        rintro r μ6 ⟨rfl, K6, c6⟩
        have E6 : KE μ μ6 := (((E2.trans E3).trans E4).trans E5).trans (KE.kp K6 sV_E)
        have s6 : ∀ j, j < 24 → μ6.1 129 j = if sk N.2.1 K j = true then 1 else 0 := fun j hj => by
          rw [K6.i (by simp only [sV, List.mem_cons, List.not_mem_nil, or_false]; omega), n5 129 (by omega)]; exact s2 j hj
        cases hc : okA V d k N.2.1 (sk N.2.1 K) K with
        | true =>
          rw [if_pos rfl, if_neg (by decide), Ok_vl, Ok_vl, nI_1, Ok_some]
          exact Or.inl ⟨rfl, q, rfl, by rw [orN_succ, if_pos hc], ⟨E6, c6⟩, s6⟩
        | false =>
          rw [if_pos (show (if false = true then (1 : Int32) else 0) = 0 by decide), Ok_vl, nI_1, Ok_some]
          exact Or.inl ⟨rfl, q, rfl, by rw [orN_succ, if_neg (by rw [hc]; decide)], ⟨E6, c6⟩, s6⟩
      · have : k = 10 := by omega
        subst this
        rw [if_pos (show 9 < nI 10 by decide), Ok_some]
        exact Or.inr ⟨0, rfl, rfl, E2, cc2⟩
    · rintro u ⟨b, z, μ2⟩ ⟨hb, E2, cc2⟩
      exact Ok_some.mpr ⟨hb, E2, cc2⟩
  · unfold f_X11_tastes
    show Ok _ _
    rw [Ok_vl, isDead_eq M0.1, bd_some, if_pos ca, if_neg (by decide)]
    generalize sI ν 181 0 0 = ν0 at M0 ⊢
    have mN := M0.2.2.2.2.2.1
    rw [hNN] at mN
    refine outs_spec hN mN hK hK2 (nI d) (k := fun μ35 => bd (lpn (fun (q : Int32 × Int32 × fMem) => f_X11_tastes_L90 181 (nI d) q.1 q.2.1 q.2.2) fuel ((0 : Int32), (0 : Int32), μ35)) fun t49 q50 => (fun (x51 : Int32) (x52 : Int32) (μ53 : fMem) => vl (sI μ53 181 50 (nI d)) fun μ54 => bd (lpn (fun (q : Int32 × Int32 × fMem) => f_X11_tastes_L144 181 x51 q.1 q.2.1 q.2.2) fuel ((0 : Int32), (0 : Int32), μ54)) fun t65 q66 => (fun (x67 : Int32) (x68 : Int32) (μ69 : fMem) => vl (sI μ69 181 50 (-1 : Int32)) fun μ70 => some (x67, μ70)) q66.1 q66.2.1 q66.2.2) q50.1 q50.2.1 q50.2.2) ?_
    intro ν1 K1 s1
    have mN1 : MN ν1 N := mN.of (fun j a b => K1.2.1 _ _ (by omega)) (fun c j a b => K1.2.1 _ _ (by omega))
    dsimp only
    rw [Ok_bd]
    refine (lastM hN mN1 hK hK2 (s := sk N.2.1 K) s1 (nI d)).mono ?_
    rintro u ⟨x, y, ν2⟩ ⟨hx, hm⟩
    dsimp only at hx hm ⊢
    subst hx hm
    rw [Ok_vl, Ok_bd]
    refine Ok.mono (Q := fun u (q : Int32 × Int32 × fMem) => q.1 = orN (fun k => okA V d k N.2.1 (sk N.2.1 K) K) 10 ∧ ∀ c j, ¬ AE c j → ¬ (c = 181 ∧ (j = 51 ∨ j = 50)) → q.2.2.1 c j = ν0.1 c j) (Ok_lp 10 (fun k (q : Int32 × Int32 × fMem) => q.2.1 = nI k ∧ q.1 = orN (fun k => okA V d k N.2.1 (sk N.2.1 K) K) k ∧ (∀ c j, ¬ AE c j → ¬ (c = 181 ∧ (j = 51 ∨ j = 50)) → q.2.2.1 c j = ν0.1 c j) ∧ q.2.2.1 181 50 = nI d ∧ ∀ j, j < K → q.2.2.1 220 j = if sk N.2.1 K j = true then 1 else 0) (by omega) ⟨rfl, rfl, fun c j h1 h2 => by rw [sI_i, if_neg (by omega)]; exact K1.2.1 c j (fun z => h1 (Or.inr (Or.inr (Or.inr z)))), by rw [sI_i, if_pos ⟨rfl, rfl⟩], fun j hj => by rw [sI_i, if_neg (by omega)]; exact s1 j hj⟩ ?_) ?_
    · rintro k ⟨b, z, ν3⟩ hk ⟨hz, hb, E3, d3, s3⟩
      dsimp only at hz hb E3 d3 s3 ⊢
      subst hz hb
      unfold f_X11_tastes_L144
      rcases Nat.lt_or_ge k 10 with q | q
      · rw [if_neg (show ¬ 9 < nI k from nI_nlt (a := 9) (by omega) (by omega)), Ok_vl, Ok_bd]
        have z3 : ∀ c j, ¬ (c = 181 ∧ j = 51) → (sI ν3 181 51 (nI k)).1 c j = ν3.1 c j := fun c j hc => by rw [sI_i, if_neg hc]
        have mH3 : MH (sI ν3 181 51 (nI k)) V := M0.1.of hV (fun c a b j _ => by rw [z3 _ _ (by omega)]; exact E3 c j (by unfold AE Px; omega) (by omega))
        have o : ∀ j, j = 47 ∨ j = 48 ∨ j = 49 → (sI ν3 181 51 (nI k)).1 181 j = ν0.1 181 j := fun j hj => by rw [z3 _ _ (by omega)]; exact E3 181 j (by unfold AE Px; omega) (by omega)
        have P3 : MP (sI ν3 181 51 (nI k)) V (tsO V d k) 0 (-1) (-1) := by
          refine ⟨by rw [o 47 (by omega)]; exact M0.2.2.1.1, by rw [o 48 (by omega)]; exact M0.2.2.1.2.1, tsO_ok hV (by omega) (by rw [z3 _ _ (by omega)]; exact d3) (by rw [sI_i, if_pos ⟨rfl, rfl⟩]) hd, by rw [o 49 (by omega)]; exact M0.2.2.1.2.2.1⟩
        have mN3 : MN (sI ν3 181 51 (nI k)) N := mN.of (fun j a b => by rw [z3 _ _ (by omega)]; exact E3 _ _ (by unfold AE Px; omega) (by omega)) (fun c j a b => by rw [z3 _ _ (by omega)]; exact E3 _ _ (by unfold AE Px; omega) (by omega))
        refine (fitsTaste_spec hV mH3 P3 hN mN3 hK hK2 (s := sk N.2.1 K) (fun j hj => by rw [z3 _ _ (by omega)]; exact s3 j hj)).mono ?_
        rintro r ν4 ⟨rfl, K4⟩
        have E4 : ∀ c j, ¬ AE c j → ¬ (c = 181 ∧ (j = 51 ∨ j = 50)) → ν4.1 c j = ν0.1 c j := fun c j h1 h2 => by
          rw [K4.2.1 c j (fun z => h1 (z.elim (fun w => Or.inl ⟨w.1, Or.inr (Or.inl w.2)⟩) (fun w => Or.inr (Or.inl w)))), z3 c j (by omega)]
          exact E3 c j h1 h2
        have d4 : ν4.1 181 50 = nI d := by rw [K4.2.1 181 50 (by unfold AX Px; omega), z3 _ _ (by omega)]; exact d3
        have s4 : ∀ j, j < K → ν4.1 220 j = if sk N.2.1 K j = true then 1 else 0 := fun j hj => by rw [K4.2.1 220 j (by unfold AX Px; omega), z3 _ _ (by omega)]; exact s3 j hj
        cases hc : okA V d k N.2.1 (sk N.2.1 K) K with
        | true =>
          rw [if_pos rfl, if_neg (by decide), Ok_vl, Ok_vl, nI_1, Ok_some]
          exact Or.inl ⟨rfl, q, rfl, by rw [orN_succ, if_pos hc], E4, d4, s4⟩
        | false =>
          rw [if_pos (show (if false = true then (1 : Int32) else 0) = 0 by decide), Ok_vl, Ok_vl, nI_1, Ok_some]
          exact Or.inl ⟨rfl, q, rfl, by rw [orN_succ, if_neg (by rw [hc]; decide)]; exact Int32.or_zero, E4, d4, s4⟩
      · have : k = 10 := by omega
        subst this
        rw [if_pos (show 9 < nI 10 by decide), Ok_some]
        exact Or.inr ⟨0, rfl, rfl, E3⟩
    · rintro u ⟨b, z, ν3⟩ ⟨hb, E3⟩
      dsimp only at hb E3 ⊢
      rw [Ok_vl]
      refine Ok_some.mpr ⟨hb, M0.k51 hV hX fun c j h1 h2 => ?_⟩
      by_cases q : c = 181 ∧ j = 50
      · obtain ⟨rfl, rfl⟩ := q
        rw [sI_i, if_pos ⟨rfl, rfl⟩]
        exact M0.2.2.1.2.2.2.symm
      · rw [sI_i, if_neg q]; exact E3 c j h1 (by omega)
end Sim13
