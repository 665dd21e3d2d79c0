/-! the course of the class -/
section Course
variable {μ : fMem} {V : HV} {h s : Nat} {S : SV} {g : Int32} {ts : Nat → Int32}
theorem tasteOf_at (C : Crs μ V h s S g ts) {d : Nat} (hd : d < V.1 3) {μ1 : fMem} (e1 : μ1.1 = μ.1) (e2 : μ1.2.2 = μ.2.2) : f_X0_tasteOf 84 (nI d) μ1 = some (ts d, μ1) := by
  obtain ⟨hV, hS, cH, cS, ⟨hh, hz, o1, o2, o3, o4, o5, o6, o7⟩, cc⟩ := C
  have h6 : V.1 3 ≤ 6 := hV.2.2.2.1
  unfold f_X0_tasteOf vl
  rw [e1, e2, o1]
  simp only [gd_t (kd2 hh), gd_t (show ixo (nI d) 6 from ixN (by omega) (by omega)), nI_clamp (show d < 2 ^ 31 by omega), (cH.2.2.2.1 d hd).1]
  rw [(o5 d hd).2]
  by_cases q : nI d = μ.1 84 4
  · rw [if_pos q, if_pos q]
  · rw [if_neg q, if_neg q]
theorem warmth_at (C : Crs μ V h s S g ts) {r : Nat} (hr : r < 6) {μ1 : fMem} (e1 : μ1.1 = μ.1) (e2 : μ1.2.2 = μ.2.2) : f_X0_warmth 84 (nI r) μ1 = some (S 3 r, μ1) := by
  obtain ⟨hV, hS, cH, cS, ⟨hh, hz, o1, o2, o3, o4, o5, o6, o7⟩, cc⟩ := C
  unfold f_X0_warmth vl
  rw [e1, e2, o2, if_neg (nI_pos (by omega)), if_neg (show ¬ 6 ≤ nI r from nI_ge (b := 6) (by omega) (by omega))]
  simp only [gd_t (kd7 hz), gd_t (show ixo (nI r) 6 from ixN (by omega) (by omega)), nI_clamp (show r < 2 ^ 31 by omega), cS.2.2.2.1 r hr]
theorem warmth_no (μ : fMem) : f_X0_warmth 84 (-1) μ = some (0, μ) := by
  unfold f_X0_warmth
  rw [if_pos (by decide)]
theorem Crs.k119 (C : Crs μ V h s S g ts) {μ1 : fMem} (K : Kp [] [119] μ μ1) : Crs μ1 V h s S g ts :=
  C.kp (K.wide (fun k q => absurd q (List.not_mem_nil)) (fun k q => by rcases List.mem_singleton.mp q with rfl; decide)) (C.2.2.2.2.2.of (K.2.1 122 (List.not_mem_nil)) (K.2.2 121 (by decide)))
/-- the names as they are told -/
def names7 (μ : fMem) (n : Nat → Int32) : fMem := sL (sL (sL (sL (sL (sL (sL μ 119 0 (n 0).toInt64) 119 1 (n 1).toInt64) 119 2 (n 2).toInt64) 119 3 (n 3).toInt64) 119 4 (n 4).toInt64) 119 5 (n 5).toInt64) 119 6 (n 6).toInt64
theorem names7_at {μ : fMem} {n : Nat → Int32} : ∀ j, j < 7 → (names7 μ n).2.1 119 j = (n j).toInt64 := by
  intro j hj
  unfold names7
  simp only [sL_l, true_and]
  match j, hj with
  | 0, _ => rfl
  | 1, _ => rfl
  | 2, _ => rfl
  | 3, _ => rfl
  | 4, _ => rfl
  | 5, _ => rfl
  | 6, _ => rfl
theorem names7_kp {μ : fMem} {n : Nat → Int32} : Kp [] [119] μ (names7 μ n) := by
  unfold names7
  exact ((((((Kp.rfl'.sL (by decide)).sL (by decide)).sL (by decide)).sL (by decide)).sL (by decide)).sL (by decide)).sL (by decide)
theorem tellT (C : Crs μ V h s S g ts) {d t r : Nat} (hd : d < V.1 3) (ht : t < V.1 2) (hr : r < 6) : f_X0_tellNames 84 (nI d) (nI t) (nI r) μ = some ((), names7 μ (nmT V d t (ts d) g (S 6 0) (S 3 r))) := by
  obtain ⟨hV, hS, cH, cS, ⟨hh, hz, o1, o2, o3, o4, o5, o6, o7⟩, cc⟩ := id C
  have h6 : V.1 3 ≤ 6 := hV.2.2.2.1
  have h8 : V.1 2 ≤ 8 := hV.2.2.1
  unfold f_X0_tellNames f_X0_tellNames_j35 f_X0_tellNames_j60 vl
  simp only [o1, gd_t (kd2 hh), has2 cH, bd_some, if_pos (hs_nI ht (by omega)), if_neg (show ¬ (1 : Int32) = 0 by decide), gd_t (show ixo (nI t) 8 from ixN (by omega) (by omega)), nI_clamp (show t < 2 ^ 31 by omega), gd_t (show ixo (0 : Int32) 7 by decide), gd_t (show ixo (1 : Int32) 7 by decide), sL_r, sL_i, Nat.reduceAdd]
  rw [tasteOf_at C hd (μ1 := sL (sL _ _ _ _) _ _ _) rfl rfl]
  simp only [bd_some, sL_r, sL_i, o1, gd_t (kd2 hh), gd_t (show ixo (nI d) 6 from ixN (by omega) (by omega)), nI_clamp (show d < 2 ^ 31 by omega)]
  rw [warmth_at C hr (μ1 := sL (sL (sL (sL _ _ _ _) _ _ _) _ _ _) _ _ _) rfl rfl]
  simp only [bd_some, sL_r, sL_i, o2, o3, gd_t (kd7 hz), (cH.2.2.1 t ht).2.1, (cH.2.2.1 t ht).2.2, (cH.2.2.2.1 d hd).2.1, cS.2.2.2.2.2.2.1]
  rfl
theorem tellD (C : Crs μ V h s S g ts) {d : Nat} (hd : d < V.1 3) : f_X0_tellNames 84 (nI d) (-1) (-1) μ = some ((), names7 μ (nmD V d (ts d) g (S 6 0))) := by
  obtain ⟨hV, hS, cH, cS, ⟨hh, hz, o1, o2, o3, o4, o5, o6, o7⟩, cc⟩ := id C
  have h6 : V.1 3 ≤ 6 := hV.2.2.2.1
  unfold f_X0_tellNames f_X0_tellNames_j35 f_X0_tellNames_j60 vl
  simp only [o1, gd_t (kd2 hh), has2 cH, bd_some, if_neg (show ¬ hs (V.1 2) (-1) from fun q => q.1 (by decide)), if_true, gd_t (show ixo (0 : Int32) 7 by decide), gd_t (show ixo (1 : Int32) 7 by decide), sL_r, sL_i, Nat.reduceAdd]
  rw [tasteOf_at C hd (μ1 := sL (sL _ _ _ _) _ _ _) rfl rfl]
  simp only [bd_some, sL_r, sL_i, o1, gd_t (kd2 hh), gd_t (show ixo (nI d) 6 from ixN (by omega) (by omega)), nI_clamp (show d < 2 ^ 31 by omega)]
  rw [warmth_no]
  simp only [bd_some, sL_r, sL_i, o2, o3, gd_t (kd7 hz), (cH.2.2.2.1 d hd).2.1, cS.2.2.2.2.2.2.1]
  rfl
theorem evR_min {L : List (Int32 × Int32)} {nm : Nat → Int32} : evR L nm = MIN ↔ ev L nm = none := by
  unfold evR
  cases e : ev L nm with
  | none => simp
  | some v =>
    rw [Option.getD_some]
    exact ⟨fun q => absurd q (inB_ne (ev_in e)), fun q => by cases q⟩
/-- a law of the house, worked out behind the telling of names -/
theorem law_at (C : Crs μ V h s S g ts) {k c : Nat} (hk : k < 3) (hc : c = h + 16 + 4 * k) (nm : Nat → Int32) : Ok (f_X3_work c 119 (names7 μ nm)) (fun r μ' => r = evR (V.2.2.2 k) nm ∧ Kp [] [119, c + 3] μ μ') := by
  have hh := C.2.2.2.2.1.1
  have C1 := C.k119 (names7_kp (n := nm))
  have hL : CL (names7 μ nm) c (V.2.2.2 k) := by
    subst hc
    match k, hk with
    | 0, _ => exact C1.2.2.1.2.2.2.2.2.2.2.1
    | 1, _ => exact C1.2.2.1.2.2.2.2.2.2.2.2.1
    | 2, _ => exact C1.2.2.1.2.2.2.2.2.2.2.2.2.1
  refine (work_spec hL (C.1.2.2.2.2.2.2.2.2.2.1 k hk) (by omega) names7_at).mono fun r μ' q => ⟨q.1, Kp.trans (names7_kp.wide (fun _ z => z) (fun k z => ?_)) (q.2.wide (fun _ z => z) (fun k z => ?_))⟩
  · rcases List.mem_singleton.mp z with rfl; exact List.mem_cons_self
  · rcases List.mem_singleton.mp z with rfl; exact List.mem_cons_of_mem _ List.mem_cons_self
theorem sB_of {c k : Nat} (hh : h = 2 ∨ h = 37) (hk : k < 3) (hc : c = h + 16 + 4 * k) : ∀ j, j ∈ [119, c + 3] → j ∈ sB := by
  intro j hj
  rcases List.mem_cons.mp hj with rfl | q
  · decide
  · rcases List.mem_singleton.mp q with rfl
    subst hc
    rcases hh with rfl | rfl
    · match k, hk with
      | 0, _ => decide
      | 1, _ => decide
      | 2, _ => decide
    · match k, hk with
      | 0, _ => decide
      | 1, _ => decide
      | 2, _ => decide
theorem nil_sub {A : List Nat} : ∀ k, k ∈ ([] : List Nat) → k ∈ A := fun k q => absurd q List.not_mem_nil
/-- what a work of the course leaves -/
def CK (μ μ' : fMem) (V : HV) : Prop := Kp [122] sB μ μ' ∧ CC μ' V
def CQ (μ μ' : fMem) (V : HV) : Prop := Kp sA sB μ μ' ∧ CC μ' V
theorem CK.q {μ' : fMem} (K : CK μ μ' V) : CQ μ μ' V := ⟨K.1.wide (fun k q => by rcases List.mem_singleton.mp q with rfl; decide) (fun _ z => z), K.2⟩
theorem CQ.crs {μ' : fMem} (C : Crs μ V h s S g ts) (K : CQ μ μ' V) : Crs μ' V h s S g ts := C.kp K.1 K.2
theorem CQ.trans {μ1 μ2 : fMem} (a : CQ μ μ1 V) (b : CQ μ1 μ2 V) : CQ μ μ2 V := ⟨a.1.trans b.1, b.2⟩
theorem CK.crs {μ' : fMem} (C : Crs μ V h s S g ts) (K : CK μ μ' V) : Crs μ' V h s S g ts := K.q.crs C
theorem CK.trans {μ1 μ2 : fMem} (a : CK μ μ1 V) (b : CK μ1 μ2 V) : CK μ μ2 V := ⟨a.1.trans b.1, b.2⟩
theorem lawK (C : Crs μ V h s S g ts) {k c : Nat} (hk : k < 3) (hc : c = h + 16 + 4 * k) {μ' : fMem} (K : Kp [] [119, c + 3] μ μ') : CK μ μ' V := by
  have hh := C.2.2.2.2.1.1
  refine ⟨K.wide nil_sub (sB_of hh hk hc), C.2.2.2.2.2.of (K.2.1 122 List.not_mem_nil) (K.2.2 121 ?_)⟩
  simp
  subst hc
  omega
theorem isComing_spec (C : Crs μ V h s S g ts) {d : Nat} (hd : d < V.1 3) : Ok (f_X0_isComing 84 (nI d) μ) (fun r μ' => r = (if cmv V d (ts d) g (S 6 0) = true then 1 else 0) ∧ CK μ μ' V) := by
  have hh := C.2.2.2.2.1.1
  have h6 : V.1 3 ≤ 6 := C.1.2.2.2.1
  unfold f_X0_isComing
  rw [tellD C hd, bd_some, Ok_vl, show (names7 μ (nmD V d (ts d) g (S 6 0))).2.2 84 8 = h from C.2.2.2.2.1.2.2.1, gd_t (kd2 hh), Ok_bd]
  refine (law_at C (k := 2) (by omega) rfl (nmD V d (ts d) g (S 6 0))).mono ?_
  rintro r μ1 ⟨rfl, K⟩
  have K' := lawK C (k := 2) (by omega) rfl K
  have C1 := K'.crs C
  simp only [lgz]
  unfold cmv
  cases e : ev (V.2.2.2 2) (nmD V d (ts d) g (S 6 0)) with
  | none =>
    rw [if_pos (evR_min.mpr e), Ok_vl, C1.2.2.2.2.1.2.2.1, gd_t (kd2 hh), gd_t (show ixo (nI d) 6 from ixN (by omega) (by omega)), nI_clamp (by omega), C1.2.2.2.2.1.2.2.2.2.1, (C1.2.2.1.2.2.2.1 d hd).2.2.2]
    simp only [decide_eq_true_eq]
    by_cases q : g < V.2.1 6 d
    · rw [if_pos q, if_neg (Int32.not_le.mpr q), gd_t (Or.inl rfl), Ok_some]; exact ⟨rfl, K'⟩
    · rw [if_neg q, if_pos (Int32.not_lt.mp q), gd_t (Or.inr rfl), Ok_some]; exact ⟨rfl, K'⟩
  | some v =>
    have e2 : evR (V.2.2.2 2) (nmD V d (ts d) g (S 6 0)) = v := by unfold evR; rw [e]; rfl
    rw [if_neg (fun q => by rw [evR_min.mp q] at e; cases e), e2]
    simp only [decide_eq_true_eq]
    by_cases q : v = 0
    · rw [if_pos q, if_neg (fun z => z q), gd_t (Or.inl rfl), Ok_some]; exact ⟨rfl, K'⟩
    · rw [if_neg q, if_pos q, gd_t (Or.inr rfl), Ok_some]; exact ⟨rfl, K'⟩
theorem bears_spec (C : Crs μ V h s S g ts) {d t r : Nat} (hd : d < V.1 3) (ht : t < V.1 2) (hr : r < 6) : Ok (f_X0_bears 84 (nI d) (nI t) (nI r) μ) (fun x μ' => x = brv V d t (ts d) g (S 6 0) (S 3 r) ∧ CK μ μ' V) := by
  have hh := C.2.2.2.2.1.1
  unfold f_X0_bears
  rw [tellT C hd ht hr, bd_some, Ok_vl, show (names7 μ (nmT V d t (ts d) g (S 6 0) (S 3 r))).2.2 84 8 = h from C.2.2.2.2.1.2.2.1, gd_t (kd2 hh), Ok_bd]
  refine (law_at C (k := 1) (by omega) rfl (nmT V d t (ts d) g (S 6 0) (S 3 r))).mono ?_
  rintro x μ1 ⟨rfl, K⟩
  have K' := lawK C (k := 1) (by omega) rfl K
  simp only [lgz]
  unfold brv
  cases e : ev (V.2.2.2 1) (nmT V d t (ts d) g (S 6 0) (S 3 r)) with
  | none => rw [if_pos (evR_min.mpr e), Ok_some]; exact ⟨rfl, K'⟩
  | some v =>
    have e2 : evR (V.2.2.2 1) (nmT V d t (ts d) g (S 6 0) (S 3 r)) = v := by unfold evR; rw [e]; rfl
    rw [if_neg (fun q => by rw [evR_min.mp q] at e; cases e), e2]
    exact Ok_some.mpr ⟨rfl, K'⟩
theorem CO_rng (C : Crs μ V h s S g ts) {d : Nat} (hd : d < V.1 3) : rng (ts d) g (S 6 0) ∧ (ts d).toInt < 15 := by
  obtain ⟨j, hj, e⟩ := (C.2.2.2.2.1.2.2.2.2.2.2.1 d hd).1
  obtain ⟨a, ha, e2⟩ := C.2.2.2.2.1.2.2.2.2.2.1
  obtain ⟨b, hb, e3⟩ := C.2.1.2.1
  exact ⟨⟨⟨j, by omega, e⟩, ⟨a, by omega, e2⟩, ⟨b, by omega, e3⟩⟩, by rw [e, nI_toInt (by omega)]; omega⟩
theorem likes_spec (C : Crs μ V h s S g ts) {d t r : Nat} (hd : d < V.1 3) (ht : t < V.1 2) (hr : r < 6) : Ok (f_X0_likes 84 (nI d) (nI t) (nI r) μ) (fun x μ' => x = lkv V d t (ts d) g (S 6 0) (S 3 r) ∧ CK μ μ' V) := by
  have hh := C.2.2.2.2.1.1
  have h6 : V.1 3 ≤ 6 := C.1.2.2.2.1
  have h8 : V.1 2 ≤ 8 := C.1.2.2.1
  obtain ⟨hR, h15⟩ := CO_rng C hd
  unfold f_X0_likes
  rw [if_neg (nI_pos (by omega)), if_neg (show ¬ 6 ≤ nI d from nI_ge (b := 6) (by omega) (by omega)), if_neg (nI_pos (by omega)), if_pos (show nI t < 8 from nI_lt (b := 8) (by omega) (by omega)), Ok_vl]
  have e8 : nI d * 8 + nI t = nI (8 * d + t) := by
    have : ∀ d, d < 6 → nI d * 8 = nI (8 * d) := by decide
    rw [this d (by omega), nI_add]
  rw [e8, tasteOf_at C hd rfl rfl, bd_some]
  have fin : ∀ x : Int64, x = enc (V.2.1 9 0) (ts d) g (S 6 0) (S 3 r) → Ok (gd (ixo (nI (8 * d + t)) 48) (if (lg_cmp (μ.2.1 121 (Int32.toNatClampNeg (nI (8 * d + t)))) x) = 0 then f_X0_likes_j142 84 (nI (8 * d + t)) μ else bd (f_X0_tellNames 84 (nI d) (nI t) (nI r) μ) fun r17 μ16 => vl (μ16.2.2 84 8) fun x19 => gd (kd x19 = (4, 2)) (bd (f_X3_work (x19 + 16) 119 μ16) fun r22 μ21 => if (lg_cmp r22 (-9223372036854775808 : Int64)) = 0 then bd (f_X0_plainLiking 84 (nI d) (nI t) μ21) fun r29 μ28 => f_X0_likes_j132 84 (nI (8 * d + t)) x 122 (nI (8 * d + t)) r29 μ28 else bd (f_X0_within r22 (99 : Int32) μ21) fun r26 μ25 => f_X0_likes_j132 84 (nI (8 * d + t)) x 122 (nI (8 * d + t)) r26 μ25))) (fun x μ' => x = lkv V d t (ts d) g (S 6 0) (S 3 r) ∧ CK μ μ' V) := by
    intro x hx
    have i1 : ixo (nI (8 * d + t)) 48 := ixN (by omega) (by omega)
    have c1 := nI_clamp (n := 8 * d + t) (by omega)
    unfold f_X0_likes_j142 f_X0_likes_j132 f_X0_likes_j142
    simp only [gd_t i1, c1, lgz, Nat.reduceAdd, vl]
    by_cases q : μ.2.1 121 (8 * d + t) = x
    · rw [if_pos q, Ok_some]
      refine ⟨?_, Kp.rfl', C.2.2.2.2.2⟩
      rcases C.2.2.2.2.2 d t hd ht with z | ⟨ta, g', mo, wm, z1, z2, z3⟩
      · rw [z] at q
        exact absurd (q.trans hx).symm (enc_ne hR h15)
      · rw [z3]
        exact lkv_enc C.1 z1 hR (z2.symm.trans (q.trans hx))
    · rw [if_neg q, tellT C hd ht hr, bd_some, show (names7 μ (nmT V d t (ts d) g (S 6 0) (S 3 r))).2.2 84 8 = h from C.2.2.2.2.1.2.2.1, gd_t (kd2 hh), Ok_bd]
      refine (law_at C (k := 0) (by omega) rfl (nmT V d t (ts d) g (S 6 0) (S 3 r))).mono ?_
      rintro y μ1 ⟨rfl, K⟩
      have K' := lawK C (k := 0) (by omega) rfl K
      have C1 := K'.crs C
      have put : ∀ z : Int32, z = lkv V d t (ts d) g (S 6 0) (S 3 r) → ((sL (sI μ1 122 (8 * d + t) z) 121 (8 * d + t) x).1 122 (8 * d + t) = lkv V d t (ts d) g (S 6 0) (S 3 r) ∧ CK μ (sL (sI μ1 122 (8 * d + t) z) 121 (8 * d + t) x) V) := by
        intro z hz
        refine ⟨by rw [sL_i, sI_i, if_pos ⟨rfl, rfl⟩, hz], (K'.1.sI (by decide)).sL (by decide), fun d' t' hd' ht' => ?_⟩
        rw [sL_l, sL_i, sI_i, sI_l]
        by_cases e : 8 * d' + t' = 8 * d + t
        · have : d' = d ∧ t' = t := by omega
          obtain ⟨rfl, rfl⟩ := this
          rw [if_pos ⟨rfl, rfl⟩, if_pos ⟨rfl, rfl⟩]
          exact Or.inr ⟨_, _, _, _, hR, hx, hz⟩
        · rw [if_neg (fun w => e w.2), if_neg (fun w => e w.2)]
          exact K'.2 d' t' hd' ht'
      cases e : ev (V.2.2.2 0) (nmT V d t (ts d) g (S 6 0) (S 3 r)) with
      | none =>
        rw [if_pos (evR_min.mpr e)]
        unfold f_X0_plainLiking
        simp only [vl, C1.2.2.2.2.1.2.2.1, gd_t (kd2 hh), gd_t (show ixo (nI t) 8 from ixN (by omega) (by omega)), gd_t (show ixo (nI d) 6 from ixN (by omega) (by omega)), tasteOf_at C1 hd rfl rfl, bd_some, nI_clamp (show t < 2 ^ 31 by omega), nI_clamp (show d < 2 ^ 31 by omega), (C1.2.2.1.2.2.1 t ht).2.1, (C1.2.2.1.2.2.1 t ht).2.2, (C1.2.2.1.2.2.2.1 d hd).2.1]
        have e3 : lkv V d t (ts d) g (S 6 0) (S 3 r) = pln V d t (ts d) := by unfold lkv; rw [e]
        by_cases w : V.2.1 1 t = V.2.1 4 d
        · rw [if_pos w, bd_some, Ok_some]; exact put _ (by rw [e3]; unfold pln; rw [if_pos w])
        · rw [if_neg w, bd_some, Ok_some]; exact put _ (by rw [e3]; unfold pln; rw [if_neg w])
      | some v =>
        have e2 : evR (V.2.2.2 0) (nmT V d t (ts d) g (S 6 0) (S 3 r)) = v := by unfold evR; rw [e]; rfl
        rw [if_neg (fun q => by rw [evR_min.mp q] at e; cases e), e2]
        unfold f_X0_within
        rw [bd_some, Ok_some]
        exact put _ (by unfold lkv clp; rw [e])
  have o6 := C.2.2.2.2.1.2.2.2.2.2.2.2.1
  have o7 := C.2.2.2.2.1.2.2.2.2.2.2.2.2
  unfold f_X0_likes_j62
  simp only [Nat.reduceAdd] at fin ⊢
  by_cases q4 : nbit (V.2.1 9 0) 4
  · rw [if_pos q4] at o7
    rw [if_pos o7, Ok_vl]
    exact fin _ (by unfold enc; rw [if_pos q4, o6])
  · rw [if_neg q4] at o7
    rw [if_neg (by rw [o7]; decide), warmth_at C hr rfl rfl, bd_some, Ok_vl]
    exact fin _ (by unfold enc; rw [if_neg q4, o6])
end Course
