/-! calls that ask of likings, of Mondays' comers, of seats -/
section Sim2
theorem lkS_at {V : HV} {g : Int32} {ts : Nat → Int32} {S : SV} {d t r : Nat} : lkS V g ts S d t r = lkv V d t (ts d) g (S 6 0) (S 3 r) := rfl
theorem RM.mrs {ν : fMem} {V : HV} {S : SV} {X : RX} (hV : HW V) (hS : SR V S) (H : RM ν V S X) : Mrs ν V 0 S (glassS V (S 6 0)) (V.2.1 3) 0 (-1) := (H.mrp hV hS).s
theorem sim_liking (a b : Int32) : Sim Rel (f_X10_liking 0 a b) (f_X11_liking 181 a b) := by
  refine simQ fun μ ν V S X h hV hS hX C M => ?_
  have cc := C.2.2.2.2.2.1
  have h6 : V.1 3 ≤ 6 := hV.2.2.2.1
  have h8 : V.1 2 ≤ 8 := hV.2.2.1
  have h0 : V.1 0 ≤ 6 := hV.1
  by_cases c : hs (V.1 3) a
  · by_cases c2 : hs (V.1 2) b
    · obtain ⟨d, hd, rfl⟩ := hs_ex c (by omega)
      obtain ⟨t, ht, rfl⟩ := hs_ex c2 (by omega)
      obtain ⟨r, hr, hat⟩ := hS.1 t ht
      refine ⟨lkS V (glassS V (S 6 0)) (V.2.1 3) S d t r, ?_, ?_⟩
      · unfold f_X10_liking
        refine qc_h C ?_
        simp only [has3 C.2.2.2.1, has2 C.2.2.2.1, bd_some, if_pos c, if_pos c2, if_neg (show ¬ (1 : Int32) = 0 by decide), vl, C.2.1, gd_t C.kd, Nat.reduceAdd]
        refine Ok_bd.mpr ?_
        refine (C.begin hV hS).mono ?_
        rintro - μ1 ⟨C1, P1, K1, R1⟩
        rw [gd_t (ixN (by omega) (by omega)), nI_clamp (by omega), R1.2.2.2.2.1.1 t ht, hat, Ok_bd]
        refine (likes_spec C1 hd ht (show r < 6 by omega)).mono ?_
        rintro x μ2 ⟨rfl, K2⟩
        exact Ok_some.mpr ⟨rfl, K1.trans K2.e, K2.2⟩
      · unfold f_X11_liking
        refine qm_th hV hX M fun ν1 K M => ?_
        simp only [isDead_eq M.1, isThing_eq M.1, bd_some, if_pos c, if_pos c2, if_neg (show ¬ (1 : Int32) = 0 by decide)]
        refine Ok_bd.mpr ?_
        refine (likingOf_spec (M.mrs hV hS) hd ht (show r < 6 by omega) hat).mono ?_
        rintro x ν2 ⟨rfl, K2⟩
        exact Ok_some.mpr ⟨rfl, K.trans (KM.r K2)⟩
    · refine ⟨-1, ?_, ?_⟩
      · unfold f_X10_liking
        refine qc_h C ?_
        simp only [has3 C.2.2.2.1, has2 C.2.2.2.1, bd_some, if_pos c, if_neg c2, if_neg (show ¬ (1 : Int32) = 0 by decide), vl, C.2.1, gd_t C.kd, if_true]
        exact qc_some cc
      · unfold f_X11_liking
        refine qm_th hV hX M fun ν1 K M => ?_
        simp only [isDead_eq M.1, isThing_eq M.1, bd_some, if_pos c, if_neg c2, if_neg (show ¬ (1 : Int32) = 0 by decide), if_true]
        exact qm_some K
  · refine ⟨-1, ?_, ?_⟩
    · unfold f_X10_liking
      refine qc_h C ?_
      rw [has3 C.2.2.2.1, bd_some, if_neg c, if_pos rfl]; exact qc_some cc
    · unfold f_X11_liking
      refine qm_th hV hX M fun ν1 K M => ?_
      rw [isDead_eq M.1, bd_some, if_neg c, if_pos rfl]; exact qm_some K
theorem lawOf_eq (h k : Nat) (hk : k < 3) (μ : fMem) : f_X2_lawOf h (nI k) μ = some (h + 16 + 4 * k, μ) := by
  unfold f_X2_lawOf
  match k, hk with
  | 0, _ => rfl
  | 1, _ => rfl
  | 2, _ => rfl
theorem kd3 {h k : Nat} (hh : h = 2 ∨ h = 37) (hk : k < 3) : kd (h + 16 + 4 * k) = (4, 3) := by
  rcases hh with rfl | rfl
  · match k, hk with
    | 0, _ => decide
    | 1, _ => decide
    | 2, _ => decide
  · match k, hk with
    | 0, _ => decide
    | 1, _ => decide
    | 2, _ => decide
theorem valueC {μ : fMem} {V : HV} {h : Nat} {S : SV} {g : Int32} {ts nm : Nat → Int32} (C : Crs μ V h 66 S g ts) {k : Nat} (hk : k < 3) {d t r : Int32} (htell : f_X0_tellNames 84 d t r μ = some ((), names7 μ nm)) : Ok (f_X0_value 84 (nI k) d t r μ) (fun x μ' => x = evR (V.2.2.2 k) nm ∧ CK μ μ' V) := by
  have hh := C.2.2.2.2.1.1
  unfold f_X0_value
  rw [htell, bd_some, Ok_vl, show (names7 μ nm).2.2 84 8 = h from C.2.2.2.2.1.2.2.1, gd_t (kd2 hh), lawOf_eq h k hk, bd_some, gd_t (kd3 hh hk), Ok_bd]
  refine (law_at C hk rfl nm).mono ?_
  rintro x μ1 ⟨rfl, K⟩
  exact Ok_some.mpr ⟨rfl, lawK C hk rfl K⟩
theorem j60M {ν : fMem} {V : HV} {S : SV} {g : Int32} {ts nm : Nat → Int32} (M : Mrs ν V 0 S g ts 0 (-1)) {k : Nat} (hk : k < 3) (hne : ¬ V.2.2.2 k = []) {d t : Int32} (hcall : f_X11_calls 181 0 d t ν = some ((), nmM ν nm)) : Ok (f_X11_law_j60 181 (nI k) 181 0 d t ν) (fun x ν' => x = evR (V.2.2.2 k) nm ∧ KM ν ν') := by
  unfold f_X11_law_j60
  rw [hcall, bd_some, Ok_bd]
  have M1 := M.km (nmM_km (n := nm))
  have hn := nmM_at (μ := ν) (n := nm)
  have K0 := nmM_km (μ := ν) (n := nm)
  generalize nmM ν nm = ν1 at M1 hn K0 ⊢
  refine (goes_at M1 hk hn hne).mono ?_
  rintro y ν2 ⟨K, q⟩
  unfold evR
  rcases q with ⟨v, e, rfl, hv⟩ | ⟨e, rfl⟩
  · rw [if_neg (by decide), Ok_some, e]
    simp only [Nat.reduceAdd, hv]
    exact ⟨rfl, K0.trans K⟩
  · rw [if_pos rfl, Ok_some, e]
    exact ⟨rfl, K0.trans K⟩
theorem sim_law (a b c : Int32) : Sim Rel (f_X10_law 0 a b c) (f_X11_law 181 a b c) := by
  refine simQ fun μ ν V S X h hV hS hX C M => ?_
  have cc := C.2.2.2.2.2.1
  have h6 : V.1 3 ≤ 6 := hV.2.2.2.1
  have h8 : V.1 2 ≤ 8 := hV.2.2.1
  have h0 : V.1 0 ≤ 6 := hV.1
  by_cases a0 : a < 0
  · refine ⟨MIN, ?_, ?_⟩
    · unfold f_X10_law; rw [if_pos a0]; exact qc_some cc
    · unfold f_X11_law
      refine qm_th hV hX M fun ν1 K M => ?_
      rw [if_pos a0]; exact qm_some K
  · by_cases a2 : 2 < a
    · refine ⟨MIN, ?_, ?_⟩
      · unfold f_X10_law; rw [if_neg a0, if_pos a2]; exact qc_some cc
      · unfold f_X11_law
        refine qm_th hV hX M fun ν1 K M => ?_
        rw [if_neg a0, if_pos a2]; exact qm_some K
    · obtain ⟨k, hk, rfl⟩ := nI_of2 (x := a) (M := 2) (n := 2) (by decide) a0 (Int32.not_lt.mp a2)
      by_cases cb : hs (V.1 3) b
      · obtain ⟨d, hd, rfl⟩ := hs_ex cb (by omega)
        by_cases k2 : k = 2
        · subst k2
          refine ⟨evR (V.2.2.2 2) (nmD V d (V.2.1 3 d) (glassS V (S 6 0)) (S 6 0)), ?_, ?_⟩
          · unfold f_X10_law f_X10_law_j46
            rw [if_neg a0, if_neg a2]
            refine qc_h C ?_
            simp only [has3 C.2.2.2.1, bd_some, if_pos cb, if_neg (show ¬ (1 : Int32) = 0 by decide), if_pos (show nI 2 = 2 from rfl), vl, C.2.1, gd_t C.kd, Nat.reduceAdd]
            refine Ok_bd.mpr ?_
            refine (C.begin hV hS).mono ?_
            rintro - μ1 ⟨C1, P1, K1, R1⟩
            rw [Ok_bd]
            refine (valueC C1 (k := 2) (by omega) (tellD C1 hd)).mono ?_
            rintro x μ2 ⟨rfl, K2⟩
            exact Ok_some.mpr ⟨rfl, K1.trans K2.e, K2.2⟩
          · unfold f_X11_law f_X11_law_j47
            refine qm_th hV hX M fun ν1 K M => ?_
            rw [if_neg a0, if_neg a2, hasLaw_spec (mlaw (M.mrs hV hS) (k := 2) (by omega)) (by omega), bd_some]
            by_cases hne : V.2.2.2 2 = []
            · rw [if_pos hne, if_pos rfl, hne]; exact qm_some K
            · simp only [if_neg hne, if_neg (show ¬ (1 : Int32) = 0 by decide), isDead_eq M.1, bd_some, if_pos cb, if_pos (show nI 2 = 2 from rfl)]
              refine (j60M (M.mrs hV hS) (k := 2) (by omega) hne (callsD (M.mrs hV hS) hd)).mono ?_
              rintro x ν2 ⟨rfl, K2⟩
              exact ⟨rfl, K.trans (KM.r K2)⟩
        · have kn : ¬ nI k = 2 := fun z => k2 ((nI_eq (a := k) (b := 2) (by omega) (by omega)).mp z)
          by_cases ct : hs (V.1 2) c
          · obtain ⟨t, ht, rfl⟩ := hs_ex ct (by omega)
            obtain ⟨r, hr, hat⟩ := hS.1 t ht
            refine ⟨evR (V.2.2.2 k) (nmT V d t (V.2.1 3 d) (glassS V (S 6 0)) (S 6 0) (S 3 r)), ?_, ?_⟩
            · unfold f_X10_law f_X10_law_j46
              rw [if_neg a0, if_neg a2]
              refine qc_h C ?_
              simp only [has3 C.2.2.2.1, has2 C.2.2.2.1, bd_some, if_pos cb, if_pos ct, if_neg (show ¬ (1 : Int32) = 0 by decide), if_neg kn, vl, C.2.1, gd_t C.kd, Nat.reduceAdd]
              refine Ok_bd.mpr ?_
              refine (C.begin hV hS).mono ?_
              rintro - μ1 ⟨C1, P1, K1, R1⟩
              rw [gd_t (ixN (by omega) (by omega)), nI_clamp (by omega), R1.2.2.2.2.1.1 t ht, hat, Ok_bd]
              refine (valueC C1 (k := k) (by omega) (tellT C1 hd ht (show r < 6 by omega))).mono ?_
              rintro x μ2 ⟨rfl, K2⟩
              exact Ok_some.mpr ⟨rfl, K1.trans K2.e, K2.2⟩
            · unfold f_X11_law f_X11_law_j47
              refine qm_th hV hX M fun ν1 K M => ?_
              rw [if_neg a0, if_neg a2, hasLaw_spec (mlaw (M.mrs hV hS) (k := k) (by omega)) (by omega), bd_some]
              by_cases hne : V.2.2.2 k = []
              · rw [if_pos hne, if_pos rfl, hne]; exact qm_some K
              · simp only [if_neg hne, if_neg (show ¬ (1 : Int32) = 0 by decide), isDead_eq M.1, isThing_eq M.1, bd_some, if_pos cb, if_pos ct, if_neg kn]
                refine (j60M (M.mrs hV hS) (k := k) (by omega) hne (callsT (M.mrs hV hS) hd ht (show r < 6 by omega) hat)).mono ?_
                rintro x ν2 ⟨rfl, K2⟩
                exact ⟨rfl, K.trans (KM.r K2)⟩
          · refine ⟨MIN, ?_, ?_⟩
            · unfold f_X10_law
              rw [if_neg a0, if_neg a2]
              refine qc_h C ?_
              simp only [has3 C.2.2.2.1, has2 C.2.2.2.1, bd_some, if_pos cb, if_neg ct, if_neg (show ¬ (1 : Int32) = 0 by decide), if_neg kn, vl, C.2.1, gd_t C.kd, if_true]
              exact qc_some cc
            · unfold f_X11_law
              refine qm_th hV hX M fun ν1 K M => ?_
              rw [if_neg a0, if_neg a2, hasLaw_spec (mlaw (M.mrs hV hS) (k := k) (by omega)) (by omega), bd_some]
              by_cases hne : V.2.2.2 k = []
              · rw [if_pos hne, if_pos rfl]; exact qm_some K
              · simp only [if_neg hne, if_neg (show ¬ (1 : Int32) = 0 by decide), isDead_eq M.1, isThing_eq M.1, bd_some, if_pos cb, if_neg ct, if_neg kn, if_true]
                exact qm_some K
      · refine ⟨MIN, ?_, ?_⟩
        · unfold f_X10_law
          rw [if_neg a0, if_neg a2]
          refine qc_h C ?_
          rw [has3 C.2.2.2.1, bd_some, if_neg cb, if_pos rfl]; exact qc_some cc
        · unfold f_X11_law
          refine qm_th hV hX M fun ν1 K M => ?_
          rw [if_neg a0, if_neg a2, hasLaw_spec (mlaw (M.mrs hV hS) (k := k) (by omega)) (by omega), bd_some]
          by_cases hne : V.2.2.2 k = []
          · rw [if_pos hne, if_pos rfl]; exact qm_some K
          · rw [if_neg hne, if_neg (by decide), isDead_eq M.1, bd_some, if_neg cb, if_pos rfl]; exact qm_some K
end Sim2
