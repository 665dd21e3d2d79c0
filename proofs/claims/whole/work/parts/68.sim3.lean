/-! comers, seats, counts -/
section Sim3
theorem abO_0 : abO 0 (-1) = -1 := by decide
theorem alO_0 : alO 0 = 0 := by decide
theorem comersOf_spec {ν : fMem} {V : HV} {x : Nat} {S : SV} {g : Int32} {ts : Nat → Int32} {tw ti : Int32} (M : Mrs ν V x S g ts tw ti) : Ok (f_X11_comersOf 181 (nI x) ν) (fun z ν' => z = orN (comB V g ts (S 6 0) (abO tw ti) (alO tw)) (V.1 3) ∧ KM ν ν') := by
  have h6 : V.1 3 ≤ 6 := M.1.2.2.2.1
  unfold f_X11_comersOf
  rw [Ok_bd]
  refine Ok.mono (Q := fun u (q : Int32 × Int32 × fMem) => q.1 = orN (comB V g ts (S 6 0) (abO tw ti) (alO tw)) (V.1 3) ∧ KM ν q.2.2) (Ok_lp (V.1 3) (fun i (q : Int32 × Int32 × fMem) => q.2.1 = nI i ∧ q.1 = orN (comB V g ts (S 6 0) (abO tw ti) (alO tw)) i ∧ KM ν q.2.2) (by omega) ⟨rfl, rfl, Kx.rfl'⟩ ?_) ?_
  · rintro i ⟨b, z, ν1⟩ hi ⟨hz, hb, K1⟩
    dsimp only at hz hb K1 ⊢
    subst hz hb
    have M1 := M.km K1
    unfold f_X11_comersOf_L4
    simp only [Nat.reduceAdd]
    rw [M1.2.2.1.1 3 (by omega)]
    rcases Nat.lt_or_ge i (V.1 3) with q | q
    · rw [if_neg (nI_ge q (by omega)), Ok_bd]
      refine (doesCome_spec M1 q).mono ?_
      rintro y ν2 ⟨rfl, K2⟩
      have un : ∀ b : Bool, comB V g ts (S 6 0) (abO tw ti) (alO tw) i = b → orN (comB V g ts (S 6 0) (abO tw ti) (alO tw)) (i + 1) = if b = true then orN (comB V g ts (S 6 0) (abO tw ti) (alO tw)) i ||| shl 1 (nI i) else orN (comB V g ts (S 6 0) (abO tw ti) (alO tw)) i := by
        rintro b rfl; rfl
      cases hc : comB V g ts (S 6 0) (abO tw ti) (alO tw) i with
      | false =>
        rw [if_pos (show (if false = true then (1 : Int32) else 0) = 0 by decide), Ok_vl, Ok_vl, nI_1, Ok_some]
        exact Or.inl ⟨rfl, q, rfl, by rw [un false hc, if_neg (by decide)]; exact Int32.or_zero, K1.trans K2⟩
      | true =>
        rw [if_pos rfl, if_neg (by decide), Ok_vl, Ok_vl, nI_1, Ok_some]
        exact Or.inl ⟨rfl, q, rfl, by rw [un true hc, if_pos rfl], K1.trans K2⟩
    · rw [if_pos (nI_le q (by omega)), Ok_some]
      have : i = V.1 3 := by omega
      subst this
      exact Or.inr ⟨0, rfl, rfl, K1⟩
  · rintro u ⟨b, z, ν1⟩ h
    exact Ok_some.mpr h
theorem sim_comes : Sim Rel (f_X10_comes 0) (f_X11_comes 181) := by
  refine simQ fun μ ν V S X h hV hS hX C M => ⟨orN (comB V (glassS V (S 6 0)) (V.2.1 3) (S 6 0) (-1) 0) (V.1 3), ?_, ?_⟩
  · unfold f_X10_comes
    refine qc_h C ?_
    simp only [Nat.reduceAdd]
    refine Ok_bd.mpr ?_
    refine (C.begin hV hS).mono ?_
    rintro - μ1 ⟨C1, P1, K1, R1⟩
    rw [Ok_bd]
    refine (comers_spec C1 P1.2.2.2.2.2.1 P1.2.2.2.2.2.2.1).mono ?_
    rintro x μ2 ⟨rfl, K2⟩
    exact Ok_some.mpr ⟨rfl, K1.trans K2.e, K2.2⟩
  · unfold f_X11_comes
    refine qm_th hV hX M fun ν1 K M => ?_
    refine Ok_bd.mpr ?_
    refine (comersOf_spec (M.mrs hV hS)).mono ?_
    rintro x ν2 ⟨rfl, K2⟩
    exact Ok_some.mpr ⟨by rw [abO_0, alO_0], K.trans (KM.r K2)⟩
theorem oI_neg {o : Option Nat} (h : ∀ r, o = some r → r < 2 ^ 31) : (0 ≤ oI o ↔ ∃ r, o = some r) ∧ (oI o = -1 ↔ o = none) := by
  cases o with
  | none => exact ⟨⟨fun q => absurd q (by decide), fun ⟨r, q⟩ => by cases q⟩, ⟨fun _ => rfl, fun _ => rfl⟩⟩
  | some r => exact ⟨⟨fun _ => ⟨r, rfl⟩, fun _ => nI_pos' (h r rfl)⟩, ⟨fun q => absurd q (nI_nm1 (h r rfl)), fun q => by cases q⟩⟩
theorem sim_sits (a : Int32) : Sim Rel (f_X10_sits 0 a) (f_X11_sits 181 a) := by
  refine simQ fun μ ν V S X h hV hS hX C M => ?_
  have cc := C.2.2.2.2.2.1
  have h6 : V.1 3 ≤ 6 := hV.2.2.2.1
  have h0 : V.1 0 ≤ 6 := hV.1
  by_cases c : hs (V.1 3) a
  · by_cases c0 : V.1 0 = 0
    · refine ⟨-1, ?_, ?_⟩
      · unfold f_X10_sits
        refine qc_h C ?_
        simp only [has3 C.2.2.2.1, told0 C.2.2.2.1, bd_some, if_pos c, if_neg (show ¬ (1 : Int32) = 0 by decide), vl, C.2.1, gd_t C.kd, c0, if_pos (show nI 0 = 0 from rfl)]
        exact qc_some cc
      · unfold f_X11_sits
        refine qm_th hV hX M fun ν1 K M => ?_
        simp only [Nat.reduceAdd, isDead_eq M.1, bd_some, if_pos c, if_neg (show ¬ (1 : Int32) = 0 by decide), M.1.1 0 (by omega), c0, if_pos (show nI 0 = 0 from rfl)]
        exact qm_some K
    · obtain ⟨d, hd, rfl⟩ := hs_ex c (by omega)
      have n0 : ¬ nI (V.1 0) = 0 := nI_ne0 (by omega) (by omega)
      have ho := oI_neg (o := seatS V (glassS V (S 6 0)) (V.2.1 3) S d) (fun r hr => by have := (bst_ok hr).1; omega)
      refine ⟨if seatS V (glassS V (S 6 0)) (V.2.1 3) S d = none then -2 else oI (seatS V (glassS V (S 6 0)) (V.2.1 3) S d), ?_, ?_⟩
      · unfold f_X10_sits
        refine qc_h C ?_
        simp only [has3 C.2.2.2.1, told0 C.2.2.2.1, bd_some, if_pos c, if_neg (show ¬ (1 : Int32) = 0 by decide), vl, C.2.1, gd_t C.kd, if_neg n0, Nat.reduceAdd]
        refine Ok_bd.mpr ?_
        refine (C.begin hV hS).mono ?_
        rintro - μ1 ⟨C1, P1, K1, R1⟩
        rw [Ok_bd]
        refine (seat_spec C1 hd).mono ?_
        rintro x μ2 ⟨rfl, K2⟩
        by_cases z : seatS V (glassS V (S 6 0)) (V.2.1 3) S d = none
        · rw [if_pos z, if_neg (fun q => by obtain ⟨r, hr⟩ := ho.1.mp q; rw [z] at hr; cases hr)]
          exact Ok_some.mpr ⟨rfl, K1.trans K2.e, K2.2⟩
        · rw [if_neg z, if_pos (ho.1.mpr (Option.ne_none_iff_exists'.mp z))]
          exact Ok_some.mpr ⟨rfl, K1.trans K2.e, K2.2⟩
      · unfold f_X11_sits
        refine qm_th hV hX M fun ν1 K M => ?_
        simp only [Nat.reduceAdd, isDead_eq M.1, bd_some, if_pos c, if_neg (show ¬ (1 : Int32) = 0 by decide), M.1.1 0 (by omega), if_neg n0]
        refine Ok_bd.mpr ?_
        refine (seatOf_spec (M.mrs hV hS) hd).mono ?_
        rintro x ν2 ⟨rfl, K2⟩
        by_cases z : seatS V (glassS V (S 6 0)) (V.2.1 3) S d = none
        · rw [if_pos z, if_pos (ho.2.mpr z)]
          exact Ok_some.mpr ⟨rfl, K.trans (KM.r K2)⟩
        · rw [if_neg z, if_neg (fun q => z (ho.2.mp q))]
          exact Ok_some.mpr ⟨rfl, K.trans (KM.r K2)⟩
  · refine ⟨-1, ?_, ?_⟩
    · unfold f_X10_sits
      refine qc_h C ?_
      rw [has3 C.2.2.2.1, bd_some, if_neg c, if_pos rfl]; exact qc_some cc
    · unfold f_X11_sits
      refine qm_th hV hX M fun ν1 K M => ?_
      rw [isDead_eq M.1, bd_some, if_neg c, if_pos rfl]; exact qm_some K
theorem sum_eq {μ : fMem} {k n : Nat} (hk : kd k = (0, n)) (hn : n < 5000) : f_X10_sum k μ = some (sumN n (μ.1 k), μ) := by
  have key : Ok (f_X10_sum k μ) (fun z μ' => z = sumN n (μ.1 k) ∧ μ' = μ) := by
    unfold f_X10_sum
    rw [Ok_vl, Ok_bd, hk]
    refine Ok.mono (Q := fun u (q : Int32 × Int32 × fMem) => q.1 = sumN n (μ.1 k) ∧ q.2.2 = μ) (Ok_lp n (fun i (q : Int32 × Int32 × fMem) => q.2.1 = nI i ∧ q.1 = sumN i (μ.1 k) ∧ q.2.2 = μ) (by omega) ⟨rfl, rfl, rfl⟩ ?_) ?_
    · rintro i ⟨b, z, μ1⟩ hi ⟨hz, hb, hm⟩
      dsimp only at hz hb hm ⊢
      subst hz hb hm
      unfold f_X10_sum_L10
      rw [hk]
      rcases Nat.lt_or_ge i n with q | q
      · rw [if_neg (show ¬ Int32.ofNat n ≤ nI i from nI_ge q (by omega)), gd_t (ixN q (by omega)), nI_clamp (by omega), Ok_vl, Ok_vl, Ok_vl, nI_1, Ok_some]
        exact Or.inl ⟨rfl, q, rfl, rfl, rfl⟩
      · rw [if_pos (show Int32.ofNat n ≤ nI i from nI_le q (by omega)), Ok_some]
        have : i = n := by omega
        subst this
        exact Or.inr ⟨0, rfl, rfl, rfl⟩
    · rintro u ⟨b, z, μ1⟩ h
      exact Ok_some.mpr h
  obtain ⟨a, b, e, rfl, rfl⟩ := key
  exact e
theorem sumN_ext {f : Nat → Int32} {n : Nat} : ∀ {m : Nat}, n ≤ m → (∀ i, n ≤ i → i < m → f i = 0) → sumN m f = sumN n f
  | 0, h, _ => by rw [show n = 0 by omega]
  | m + 1, h, hp => by
    by_cases q : n = m + 1
    · rw [q]
    · show sumN m f + f m = sumN n f
      rw [hp m (by omega) (by omega), Int32.add_zero]
      exact sumN_ext (by omega) (fun i a b => hp i a (by omega))
end Sim3
