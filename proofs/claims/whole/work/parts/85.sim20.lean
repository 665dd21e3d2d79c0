/-! the hanging all like best, as the class finds it -/
section Sim20
abbrev BS (k _ : Nat) : Prop := k ∈ sB
theorem Kp.kx {A B : List Nat} {A' B' : Nat → Nat → Prop} {μ μ' : fMem} (K : Kp A B μ μ') (hA : ∀ k j, k ∈ A → A' k j) (hB : ∀ k j, k ∈ B → B' k j) : Kx A' B' μ μ' := ⟨K.1, fun k j h => K.i (fun z => h (hA k j z)) j, fun k j h => K.l (fun z => h (hB k j z)) j⟩
theorem Crs.kx {μ μ' : fMem} {V : HV} {h : Nat} {S : SV} {g : Int32} {ts : Nat → Int32} {A : Nat → Nat → Prop} (C : Crs μ V h 66 S g ts) (K : Kx A BS μ μ') (hA : ∀ k j, A k j → k = 122 ∨ 134 ≤ k) (cc : CC μ' V) : Crs μ' V h 66 S g ts := by
  obtain ⟨c1, c2, c3, c4, c5, c6⟩ := C
  have hh := c5.1
  have e : ∀ k, ¬ (k = 122 ∨ 134 ≤ k) → μ'.1 k = μ.1 k := fun k hk => by funext j; exact K.2.1 k j (fun z => hk (hA k j z))
  exact ⟨c1, c2, c3.of fun k a b => e k (by rcases hh with rfl | rfl <;> omega), c4.of fun k a b => e k (by omega), c5.of (e 84 (by omega)) (by funext j; exact K.2.2 84 j (show ¬ 84 ∈ sB by decide)) K.1, cc⟩
def AH (d k j : Nat) : Prop := k = 122 ∨ k = 163 + d ∨ (k = 170 ∧ j = d) ∨ (138 ≤ k ∧ k < 162 ∧ (k - 138) % 6 = d)
theorem AH_ok {d : Nat} : ∀ k j, AH d k j → k = 122 ∨ 134 ≤ k := fun k j h => by unfold AH at h; omega
def HF (μ : fMem) (V : HV) (S : SV) : Prop := μ.1 134 2 = nI (frN V) ∧ μ.1 134 3 = nI (V.1 0) ∧ μ.1 134 4 = nI (V.1 3) ∧ μ.1 134 5 = S 5 0
theorem HF.of {μ μ' : fMem} {V : HV} {S : SV} (H : HF μ V S) (e : ∀ j, 2 ≤ j → μ'.1 134 j = μ.1 134 j) : HF μ' V S := by
  unfold HF at H ⊢
  rw [e 2 (by omega), e 3 (by omega), e 4 (by omega), e 5 (by omega)]
  exact H
section W
variable {μ : fMem} {V : HV} {h : Nat} {S : SV} {g : Int32} {ts : Nat → Int32}
theorem weigh16 (C : Crs μ V h 66 S g ts) (hS : SR V S) (hts : ∀ d, d < V.1 3 → Upto 9 (ts d)) {d : Nat} (hd : d < V.1 3) (z0 : ∀ r, r < 6 → μ.1 (163 + d) r = 0) : Ok (lpn (fun (q : Int32 × fMem) => f_X1_weigh_L16 134 (nI d) h 66 84 q.1 q.2) fuel (nI (frN V), μ)) (fun _ q => Kx (AH d) BS μ q.2 ∧ CC q.2 V ∧ ∀ r, r < 6 → q.2.1 (163 + d) r = nI (bsN V g ts S d r)) := by
  have hV := C.1
  have h8 : V.1 2 ≤ 8 := hV.2.2.1
  have h6 : V.1 0 ≤ 6 := hV.1
  have hd6 : V.1 3 ≤ 6 := hV.2.2.2.1
  have hF : frN V ≤ V.1 2 := by unfold frN; omega
  refine Ok.mono (Q := fun u (q : Int32 × fMem) => Kx (AH d) BS μ q.2 ∧ CC q.2 V ∧ ∀ r, r < 6 → q.2.1 (163 + d) r = nI (bsN V g ts S d r)) (Ok_lp (V.1 2 - frN V) (fun i (q : Int32 × fMem) => q.1 = nI (frN V + i) ∧ Kx (AH d) BS μ q.2 ∧ CC q.2 V ∧ ∀ r, r < 6 → q.2.1 (163 + d) r = nI (sumT (frN V + i) (fun t => if frN V ≤ t ∧ S 0 t = nI r then lkN V g ts S d t r else 0))) (by omega) ⟨rfl, Kx.rfl', C.2.2.2.2.2, fun r hr => by rw [sumT_0 (fun i hi => if_neg (fun w => by omega))]; exact z0 r hr⟩ ?_) (fun _ _ q => q)
  rintro i ⟨z, μ1⟩ hi ⟨hz, K1, cc1, e1⟩
  dsimp only at hz K1 cc1 e1 ⊢
  subst hz
  have C1 := C.kx K1 AH_ok cc1
  unfold f_X1_weigh_L16
  simp only [Nat.reduceAdd]
  rw [told2 C1.2.2.1, bd_some]
  rcases Nat.lt_or_ge (frN V + i) (V.1 2) with q | q
  · obtain ⟨r, hr, hat⟩ := hS.1 (frN V + i) q
    have ixr : ixo (nI r) 6 := ixN (by omega) (by omega)
    rw [if_neg (nI_ge q (by omega)), gd_t (ixN (by omega) (by omega)), nI_clamp (by omega), Ok_vl, C1.2.2.2.1.1 _ q, hat, has0 C1.2.2.1, bd_some, if_pos (hs_nI hr (by omega)), if_neg (by decide), gd_t (ixN (by omega) (by omega))]
    simp only [gd_t ixr]
    rw [nI_clamp (by omega), nI_clamp (by omega), Ok_bd]
    refine (likes_spec C1 hd q (show r < 6 by omega)).mono ?_
    rintro y μ2 ⟨hy, K2⟩
    have ey : y = nI (lkN V g ts S d (frN V + i) r) := hy.trans (lkN_eq hV hts hd q r).1
    subst ey
    have K12 : Kx (AH d) BS μ1 μ2 := K2.1.kx (fun k j hk => Or.inl (by simpa using hk)) (fun _ _ z => z)
    rw [Ok_vl, Ok_vl, nI_1, Ok_some, e1 r (by omega), nI_add]
    refine Or.inl ⟨rfl, by omega, rfl, (K1.trans K12).sI (Or.inr (Or.inl rfl)), K2.2.of (by funext j; rw [sI_i, if_neg (by omega)]) rfl, fun r' hr' => ?_⟩
    have un : sumT (frN V + (i + 1)) (fun t => if frN V ≤ t ∧ S 0 t = nI r' then lkN V g ts S d t r' else 0) = sumT (frN V + i) (fun t => if frN V ≤ t ∧ S 0 t = nI r' then lkN V g ts S d t r' else 0) + (if frN V ≤ frN V + i ∧ S 0 (frN V + i) = nI r' then lkN V g ts S d (frN V + i) r' else 0) := rfl
    dsimp only
    rw [sI_i, un]
    by_cases e : r' = r
    · subst e
      rw [if_pos ⟨rfl, rfl⟩, if_pos ⟨by omega, hat⟩]
    · rw [if_neg (fun w => e w.2), K2.1.i (by simp only [List.mem_singleton]; omega), e1 r' hr', if_neg (fun w => e ((nI_eq (by omega) (by omega)).mp (w.2.symm.trans hat))), Nat.add_zero]
  · rw [if_pos (nI_le q (by omega)), Ok_some]
    have : frN V + i = V.1 2 := by omega
    rw [this] at e1
    exact Or.inr ⟨0, rfl, K1, cc1, e1⟩
theorem weigh88 (C : Crs μ V h 66 S g ts) (hts : ∀ d, d < V.1 3 → Upto 9 (ts d)) (H : HF μ V S) {d t : Nat} (hd : d < V.1 3) (ht : t < frN V) : Ok (lpn (fun (q : Int32 × fMem) => f_X1_weigh_L88 134 (nI d) 84 (nI t) q.1 q.2) fuel ((0 : Int32), μ)) (fun _ q => Kx (fun k _ => k = 122 ∨ k = 138 + (t * 6 + d)) BS μ q.2 ∧ CC q.2 V ∧ ∀ r, r < V.1 0 → q.2.1 (138 + (t * 6 + d)) r = nI (lkN V g ts S d t r)) := by
  have hV := C.1
  have h8 : V.1 2 ≤ 8 := hV.2.2.1
  have h6 : V.1 0 ≤ 6 := hV.1
  have hd6 : V.1 3 ≤ 6 := hV.2.2.2.1
  have ht4 : t < 4 := by unfold frN at ht; omega
  have htT : t < V.1 2 := by unfold frN at ht; omega
  refine Ok_lp (V.1 0) (fun i (q : Int32 × fMem) => q.1 = nI i ∧ Kx (fun k _ => k = 122 ∨ k = 138 + (t * 6 + d)) BS μ q.2 ∧ CC q.2 V ∧ ∀ r, r < i → q.2.1 (138 + (t * 6 + d)) r = nI (lkN V g ts S d t r)) (by omega) ⟨rfl, Kx.rfl', C.2.2.2.2.2, fun r hr => by omega⟩ ?_
  rintro i ⟨z, μ1⟩ hi ⟨hz, K1, cc1, e1⟩
  dsimp only at hz K1 cc1 e1 ⊢
  subst hz
  have C1 := C.kx K1 (fun k j w => by omega) cc1
  have H1 := H.of (μ' := μ1) (fun j hj => K1.2.1 134 j (by omega))
  unfold f_X1_weigh_L88
  simp only [Nat.reduceAdd]
  rw [H1.2.1]
  rcases Nat.lt_or_ge i (V.1 0) with q | q
  · have e6 : nI t * 6 + nI d = nI (t * 6 + d) := by rw [show (6 : Int32) = nI 6 from rfl, nI_mul, nI_add]
    rw [if_neg (nI_ge q (by omega)), e6, gd_t (ixN (by omega) (by omega)), nI_clamp (show t * 6 + d < 2 ^ 31 by omega), Ok_bd]
    refine (likes_spec C1 hd htT (show i < 6 by omega)).mono ?_
    rintro y μ2 ⟨hy, K2⟩
    have ey : y = nI (lkN V g ts S d t i) := hy.trans (lkN_eq hV hts hd htT i).1
    subst ey
    rw [gd_t (ixN (by omega) (by omega)), nI_clamp (by omega), Ok_vl, Ok_vl, nI_1, Ok_some]
    refine Or.inl ⟨rfl, q, rfl, (K1.trans (K2.1.kx (fun k j hk => Or.inl (by simpa using hk)) (fun _ _ z => z))).sI (Or.inr rfl), K2.2.of (by funext j; rw [sI_i, if_neg (by omega)]) rfl, fun r hr => ?_⟩
    dsimp only
    rw [sI_i]
    by_cases e : r = i
    · rw [if_pos ⟨rfl, e⟩, e]
    · rw [if_neg (fun w => e w.2), K2.1.i (by simp only [List.mem_singleton]; omega)]; exact e1 r (by omega)
  · rw [if_pos (nI_le q (by omega)), Ok_some]
    have : i = V.1 0 := by omega
    subst this
    exact Or.inr ⟨0, rfl, K1, cc1, e1⟩
theorem weigh76 (C : Crs μ V h 66 S g ts) (hts : ∀ d, d < V.1 3 → Upto 9 (ts d)) (H : HF μ V S) {d : Nat} (hd : d < V.1 3) : Ok (lpn (fun (q : Int32 × fMem) => f_X1_weigh_L76 134 (nI d) 84 q.1 q.2) fuel ((0 : Int32), μ)) (fun _ q => Kx (fun k _ => k = 122 ∨ (138 ≤ k ∧ k < 162 ∧ (k - 138) % 6 = d)) BS μ q.2 ∧ CC q.2 V ∧ ∀ t, t < frN V → ∀ r, r < V.1 0 → q.2.1 (138 + (t * 6 + d)) r = nI (lkN V g ts S d t r)) := by
  have hV := C.1
  have hd6 : V.1 3 ≤ 6 := hV.2.2.2.1
  have hF4 : frN V ≤ 4 := by unfold frN; omega
  refine Ok_lp (frN V) (fun i (q : Int32 × fMem) => q.1 = nI i ∧ Kx (fun k _ => k = 122 ∨ (138 ≤ k ∧ k < 162 ∧ (k - 138) % 6 = d)) BS μ q.2 ∧ CC q.2 V ∧ ∀ t, t < i → ∀ r, r < V.1 0 → q.2.1 (138 + (t * 6 + d)) r = nI (lkN V g ts S d t r)) (by omega) ⟨rfl, Kx.rfl', C.2.2.2.2.2, fun t ht => by omega⟩ ?_
  rintro i ⟨z, μ1⟩ hi ⟨hz, K1, cc1, e1⟩
  dsimp only at hz K1 cc1 e1 ⊢
  subst hz
  have C1 := C.kx K1 (fun k j w => by omega) cc1
  have H1 := H.of (μ' := μ1) (fun j hj => K1.2.1 134 j (by omega))
  unfold f_X1_weigh_L76
  rw [H1.1]
  rcases Nat.lt_or_ge i (frN V) with q | q
  · rw [if_neg (nI_ge q (by omega)), Ok_bd]
    refine (weigh88 C1 hts H1 hd q).mono ?_
    rintro u ⟨z2, μ2⟩ ⟨K2, cc2, e2⟩
    dsimp only at K2 cc2 e2 ⊢
    rw [Ok_vl, nI_1, Ok_some]
    refine Or.inl ⟨rfl, q, rfl, K1.trans (K2.wide (fun k j w => by omega) (fun _ _ z => z)), cc2, fun t ht r hr => ?_⟩
    dsimp only
    by_cases e : t = i
    · rw [e]; exact e2 r hr
    · rw [K2.2.1 _ _ (by omega)]; exact e1 t (by omega) r hr
  · rw [if_pos (nI_le q (by omega)), Ok_some]
    have : i = frN V := by omega
    subst this
    exact Or.inr ⟨0, rfl, K1, cc1, e1⟩
theorem weigh146 (hV : HW V) (H : HF μ V S) {d : Nat} (hd : d < V.1 3) (f : Nat → Nat) (hf : ∀ r, f r ≤ 2000) (hs : ∀ r, r < V.1 0 → μ.1 (163 + d) r = nI (f r)) (h0 : μ.1 170 d = 0) : Ok (lpn (fun (q : Int32 × fMem) => f_X1_weigh_L146 134 (nI d) q.1 q.2) fuel ((0 : Int32), μ)) (fun _ q => Kx (fun k j => k = 170 ∧ j = d) BN μ q.2 ∧ q.2.1 170 d = nI (mxO (fun r => nbit (S 5 0) r) f (V.1 0))) := by
  have h6 : V.1 0 ≤ 6 := hV.1
  have hd6 : V.1 3 ≤ 6 := hV.2.2.2.1
  refine Ok_lp (V.1 0) (fun i (q : Int32 × fMem) => q.1 = nI i ∧ Kx (fun k j => k = 170 ∧ j = d) BN μ q.2 ∧ q.2.1 170 d = nI (mxO (fun r => nbit (S 5 0) r) f i)) (by omega) ⟨rfl, Kx.rfl', h0⟩ ?_
  rintro i ⟨z, μ1⟩ hi ⟨hz, K1, e1⟩
  dsimp only at hz K1 e1 ⊢
  subst hz
  have H1 := H.of (μ' := μ1) (fun j hj => K1.2.1 134 j (by omega))
  unfold f_X1_weigh_L146
  simp only [Nat.reduceAdd, Nat.add_zero]
  rw [H1.2.1, H1.2.2.2]
  rcases Nat.lt_or_ge i (V.1 0) with q | q
  · rw [if_neg (nI_ge q (by omega))]
    by_cases c : nbit (S 5 0) i
    · have ixd : ixo (nI d) 6 := ixN (by omega) (by omega)
      rw [if_pos c]
      simp only [gd_t ixd, gd_t (show ixo (nI i) 6 from ixN (by omega) (by omega))]
      have b := mxO_le (op := fun r => nbit (S 5 0) r) (f := f) (b := 2000) i (fun r _ => hf r)
      have b2 := hf i
      rw [nI_clamp (by omega), nI_clamp (by omega), e1, K1.2.1 (163 + d) i (by omega), hs i q, imx_nI (by omega) (by omega), Ok_vl, Ok_vl, nI_1, Ok_some]
      refine Or.inl ⟨rfl, q, rfl, K1.sI ⟨rfl, rfl⟩, ?_⟩
      dsimp only
      rw [sI_i, if_pos ⟨rfl, rfl⟩, mxO_succ, if_pos c]
    · rw [if_neg c, Ok_vl, nI_1, Ok_some]
      refine Or.inl ⟨rfl, q, rfl, K1, ?_⟩
      dsimp only
      rw [mxO_succ, if_neg c]; exact e1
  · rw [if_pos (nI_le q (by omega)), Ok_some]
    have : i = V.1 0 := by omega
    subst this
    exact Or.inr ⟨0, rfl, K1, e1⟩
theorem bsN_le (hV : HW V) (hts : ∀ d, d < V.1 3 → Upto 9 (ts d)) {d : Nat} (hd : d < V.1 3) (r : Nat) : bsN V g ts S d r ≤ 2000 := by
  have := smN_le (g := g) (S := S) hV hts hd (Nat.zero_le _) (fun _ => 0) r
  unfold smN at this
  omega
theorem weighH_spec (C : Crs μ V h 66 S g ts) (hS : SR V S) (hts : ∀ d, d < V.1 3 → Upto 9 (ts d)) (H : HF μ V S) {d : Nat} (hd : d < V.1 3) : Ok (f_X1_weigh 134 (nI d) h 66 84 μ) (fun _ μ' => Kx (AH d) BS μ μ' ∧ CC μ' V ∧ (∀ r, r < V.1 0 → μ'.1 (163 + d) r = nI (bsN V g ts S d r)) ∧ (∀ t, t < frN V → ∀ r, r < V.1 0 → μ'.1 (138 + (t * 6 + d)) r = nI (lkN V g ts S d t r)) ∧ μ'.1 170 d = nI (mxO (fun r => nbit (S 5 0) r) (bsN V g ts S d) (V.1 0))) := by
  have hV := C.1
  have h6 : V.1 0 ≤ 6 := hV.1
  have hd6 : V.1 3 ≤ 6 := hV.2.2.2.1
  have kdd : kd (163 + d) = (0, 6) := (by decide : ∀ d, d < 6 → kd (163 + d) = (0, 6)) d (by omega)
  have ixd : ixo (nI d) 6 := ixN (by omega) (by omega)
  unfold f_X1_weigh
  simp only [Nat.reduceAdd, Nat.add_zero, gd_t ixd]
  rw [nI_clamp (by omega), fill_spec (163 + d) 0 μ kdd (by decide), bd_some]
  have K0 : Kx (AH d) BS μ (sRow μ (163 + d) fun j => if j < 6 then 0 else μ.1 (163 + d) j) := (Kp.rfl'.sRow (A := [163 + d]) (B := sB) (List.mem_singleton.mpr rfl)).kx (fun k j hk => by rw [List.mem_singleton] at hk; exact Or.inr (Or.inl hk)) (fun _ _ z => z)
  have cc0 : CC (sRow μ (163 + d) fun j => if j < 6 then 0 else μ.1 (163 + d) j) V := C.2.2.2.2.2.of (sRow_ne (by omega)) rfl
  have z0 : ∀ r, r < 6 → (sRow μ (163 + d) fun j => if j < 6 then 0 else μ.1 (163 + d) j).1 (163 + d) r = 0 := fun r hr => by rw [sRow_at, if_pos hr]
  generalize (sRow μ (163 + d) fun j => if j < 6 then 0 else μ.1 (163 + d) j) = μ0 at K0 cc0 z0 ⊢
  have C0 := C.kx K0 AH_ok cc0
  have H0 := H.of (μ' := μ0) (fun j hj => K0.2.1 134 j (by unfold AH; omega))
  rw [Ok_vl, H0.1, Ok_bd]
  refine (weigh16 C0 hS hts hd z0).mono ?_
  rintro u ⟨z1, μ1⟩ ⟨K1, cc1, e1⟩
  dsimp only at K1 cc1 e1 ⊢
  have C1 := C0.kx K1 AH_ok cc1
  have H1 := H0.of (μ' := μ1) (fun j hj => K1.2.1 134 j (by unfold AH; omega))
  rw [Ok_bd]
  refine (weigh76 C1 hts H1 hd).mono ?_
  rintro u ⟨z2, μ2⟩ ⟨K2, cc2, e2⟩
  dsimp only at K2 cc2 e2 ⊢
  have H2 := H1.of (μ' := μ2) (fun j hj => K2.2.1 134 j (by omega))
  rw [Ok_vl, Ok_bd]
  have zz : ∀ k j, ¬ (k = 170 ∧ j = d) → (sI μ2 170 d 0).1 k j = μ2.1 k j := fun k j w => by rw [sI_i, if_neg w]
  have s2 : ∀ r, r < V.1 0 → (sI μ2 170 d 0).1 (163 + d) r = nI (bsN V g ts S d r) := fun r hr => by rw [zz _ _ (by omega), K2.2.1 _ _ (by omega)]; exact e1 r (by omega)
  refine (weigh146 (μ := sI μ2 170 d 0) hV (H2.of fun j hj => zz _ _ (by omega)) hd (bsN V g ts S d) (bsN_le hV hts hd) s2 (by rw [sI_i, if_pos ⟨rfl, rfl⟩])).mono ?_
  rintro u ⟨z3, μ3⟩ ⟨K3, e3⟩
  dsimp only at K3 e3 ⊢
  rw [Ok_some]
  have K2' : Kx (AH d) BS μ1 μ2 := K2.wide (fun k j w => by unfold AH; omega) (fun _ _ z => z)
  have K3' : Kx (AH d) BS (sI μ2 170 d 0) μ3 := K3.wide (fun k j w => by unfold AH; omega) (fun _ _ z => absurd z id)
  refine ⟨((K0.trans K1).trans (K2'.sI (Or.inr (Or.inr (Or.inl ⟨rfl, rfl⟩))))).trans K3', ?_, fun r hr => ?_, fun t ht r hr => ?_, e3⟩
  · refine cc2.of ?_ ?_
    · funext j; rw [K3.2.1 _ _ (by omega), zz _ _ (by omega)]
    · funext j; rw [K3.2.2 _ _ id]; rfl
  · rw [K3.2.1 _ _ (by omega)]; exact s2 r hr
  · have ht4 : t < 4 := by unfold frN at ht; omega
    rw [K3.2.1 _ _ (by omega), zz _ _ (by omega)]; exact e2 t ht r hr
end W
/-- a hanging begun -/
def HC (μ : fMem) (V : HV) (g : Int32) (ts : Nat → Int32) (S : SV) (t : Nat) (c : Nat → Nat) : Prop := HF μ V S ∧ (∀ d, d < V.1 3 → ∀ i, i < frN V → ∀ r, r < V.1 0 → μ.1 (138 + (i * 6 + d)) r = nI (lkN V g ts S d i r)) ∧ (∀ d, d < V.1 3 → ∀ r, r < V.1 0 → μ.1 (163 + d) r = nI (smN V g ts S t c d r)) ∧ (∀ i, i ≤ t → ∀ d, d < V.1 3 → μ.1 (170 + i) d = nI (pkN V g ts S i c d)) ∧ ∀ i, i < t → μ.1 136 i = nI (c i)
abbrev AG (k _ : Nat) : Prop := 134 ≤ k
section H
variable {μ : fMem} {V : HV} {S : SV} {g : Int32} {ts : Nat → Int32}
theorem put_spec (hV : HW V) (hts : ∀ d, d < V.1 3 → Upto 9 (ts d)) {t r : Nat} {c : Nat → Nat} (H : HC μ V g ts S t c) (ht : t < frN V) (hr : r < V.1 0) (hch : μ.1 136 t = nI r) : Ok (f_X1_put 134 (nI t) (nI r) μ) (fun _ μ' => HC μ' V g ts S (t + 1) (updc c t r) ∧ Kx (fun k _ => (163 ≤ k ∧ k < 169) ∨ k = 170 + (t + 1)) BN μ μ') := by
  have h6 : V.1 0 ≤ 6 := hV.1
  have hd6 : V.1 3 ≤ 6 := hV.2.2.2.1
  have ht4 : t < 4 := by unfold frN at ht; omega
  obtain ⟨H1, H2, H3, H4, H5⟩ := H
  have go : ∀ op : Int32, (op = 0 ↔ ¬ nbit (S 5 0) r) → Ok (f_X1_put_j16 134 (nI t) (nI r) op μ) (fun _ μ' => HC μ' V g ts S (t + 1) (updc c t r) ∧ Kx (fun k _ => (163 ≤ k ∧ k < 169) ∨ k = 170 + (t + 1)) BN μ μ') := by
    intro op hop
    unfold f_X1_put_j16
    rw [Ok_bd]
    refine Ok.mono (Q := fun u (q : Int32 × fMem) => Kx (fun k _ => (163 ≤ k ∧ k < 169) ∨ k = 170 + (t + 1)) BN μ q.2 ∧ (∀ d, d < V.1 3 → ∀ r', r' < V.1 0 → q.2.1 (163 + d) r' = nI (smN V g ts S (t + 1) (updc c t r) d r')) ∧ ∀ d, d < V.1 3 → q.2.1 (170 + (t + 1)) d = nI (pkN V g ts S (t + 1) (updc c t r) d)) (Ok_lp (V.1 3) (fun i (q : Int32 × fMem) => q.1 = nI i ∧ Kx (fun k _ => (163 ≤ k ∧ k < 169) ∨ k = 170 + (t + 1)) BN μ q.2 ∧ (∀ d, d < V.1 3 → ∀ r', r' < V.1 0 → q.2.1 (163 + d) r' = nI (if d < i then smN V g ts S (t + 1) (updc c t r) d r' else smN V g ts S t c d r')) ∧ ∀ d, d < i → q.2.1 (170 + (t + 1)) d = nI (pkN V g ts S (t + 1) (updc c t r) d)) (by omega) ⟨rfl, Kx.rfl', fun d hd r' hr' => by rw [if_neg (by omega)]; exact H3 d hd r' hr', fun d hd => by omega⟩ ?_) ?_
    · rintro i ⟨z, μ1⟩ hi ⟨hz, K1, e1, p1⟩
      dsimp only at hz K1 e1 p1 ⊢
      subst hz
      have F1 := H1.of (μ' := μ1) (fun j hj => K1.2.1 134 j (by omega))
      unfold f_X1_put_L20
      simp only [Nat.reduceAdd]
      rw [F1.2.2.1]
      rcases Nat.lt_or_ge i (V.1 3) with q | q
      · have e6 : nI t * 6 + nI i = nI (t * 6 + i) := by rw [show (6 : Int32) = nI 6 from rfl, nI_mul, nI_add]
        rw [if_neg (nI_ge q (by omega)), e6, nI_1]
        simp only [gd_t (show ixo (nI i) 6 from ixN (by omega) (by omega)), gd_t (show ixo (nI r) 6 from ixN (by omega) (by omega)), gd_t (show ixo (nI (t * 6 + i)) 24 from ixN (by omega) (by omega)), gd_t (show ixo (nI (t + 1)) 5 from ixN (by omega) (by omega)), gd_t (show ixo (nI t) 5 from ixN (by omega) (by omega)), nI_clamp (show i < 2 ^ 31 by omega), nI_clamp (show r < 2 ^ 31 by omega), nI_clamp (show t * 6 + i < 2 ^ 31 by omega), nI_clamp (show t + 1 < 2 ^ 31 by omega), nI_clamp (show t < 2 ^ 31 by omega)]
        have es : μ1.1 (163 + i) r = nI (smN V g ts S t c i r) := by rw [e1 i q r hr, if_neg (by omega)]
        have ew : μ1.1 (138 + (t * 6 + i)) r = nI (lkN V g ts S i t r) := by rw [K1.2.1 _ _ (by omega)]; exact H2 i q t ht r hr
        have esum : nI (smN V g ts S t c i r) + nI (lkN V g ts S i t r) = nI (smN V g ts S (t + 1) (updc c t r) i r) := by rw [nI_add, smN_succ, if_pos rfl]
        rw [es, ew, esum, Ok_vl]
        have z2 : ∀ k j, ¬ (k = 163 + i ∧ j = r) → (sI μ1 (163 + i) r (nI (smN V g ts S (t + 1) (updc c t r) i r))).1 k j = μ1.1 k j := fun k j w => by rw [sI_i, if_neg w]
        have z3 : (sI μ1 (163 + i) r (nI (smN V g ts S (t + 1) (updc c t r) i r))).1 (163 + i) r = nI (smN V g ts S (t + 1) (updc c t r) i r) := by rw [sI_i, if_pos ⟨rfl, rfl⟩]
        have K2 : Kx (fun k _ => (163 ≤ k ∧ k < 169) ∨ k = 170 + (t + 1)) BN μ (sI μ1 (163 + i) r (nI (smN V g ts S (t + 1) (updc c t r) i r))) := K1.sI (Or.inl ⟨by omega, by omega⟩)
        generalize sI μ1 (163 + i) r (nI (smN V g ts S (t + 1) (updc c t r) i r)) = μ2 at z2 z3 K2 ⊢
        have ep : μ2.1 (170 + t) i = nI (pkN V g ts S t c i) := by rw [K2.2.1 _ _ (by omega)]; exact H4 t (Nat.le_refl _) i q
        have fin : ∀ v, v = nI (pkN V g ts S (t + 1) (updc c t r) i) → Ok (vl (sI μ2 (170 + (t + 1)) i v) fun μ13 => vl (nI i + 1) fun x15 => some (0, (x15, μ13))) (fun u s' => (u = 0 ∧ i < V.1 3 ∧ s'.1 = nI (i + 1) ∧ Kx (fun k _ => (163 ≤ k ∧ k < 169) ∨ k = 170 + (t + 1)) BN μ s'.2 ∧ (∀ d, d < V.1 3 → ∀ r', r' < V.1 0 → s'.2.1 (163 + d) r' = nI (if d < i + 1 then smN V g ts S (t + 1) (updc c t r) d r' else smN V g ts S t c d r')) ∧ ∀ d, d < i + 1 → s'.2.1 (170 + (t + 1)) d = nI (pkN V g ts S (t + 1) (updc c t r) d)) ∨ ∃ u1, u = u1 + 1 ∧ Kx (fun k _ => (163 ≤ k ∧ k < 169) ∨ k = 170 + (t + 1)) BN μ s'.2 ∧ (∀ d, d < V.1 3 → ∀ r', r' < V.1 0 → s'.2.1 (163 + d) r' = nI (smN V g ts S (t + 1) (updc c t r) d r')) ∧ ∀ d, d < V.1 3 → s'.2.1 (170 + (t + 1)) d = nI (pkN V g ts S (t + 1) (updc c t r) d)) := by
          rintro v rfl
          rw [Ok_vl, Ok_vl, nI_1, Ok_some]
          refine Or.inl ⟨rfl, q, rfl, K2.sI (Or.inr rfl), fun d hd r' hr' => ?_, fun d hd => ?_⟩
          · dsimp only
            rw [sI_i, if_neg (by omega)]
            by_cases ed : d = i
            · subst ed
              rw [if_pos (by omega)]
              by_cases er : r' = r
              · rw [er]; exact z3
              · rw [z2 _ _ (by omega), e1 d hd r' hr', if_neg (by omega), smN_succ, if_neg (fun w => er w.symm), Nat.add_zero]
            · rw [z2 _ _ (by omega), e1 d hd r' hr']
              by_cases c4 : d < i
              · rw [if_pos c4, if_pos (by omega)]
              · rw [if_neg c4, if_neg (by omega)]
          · dsimp only
            rw [sI_i]
            by_cases ed : d = i
            · rw [if_pos ⟨rfl, ed⟩, ed]
            · rw [if_neg (fun w => ed w.2), z2 _ _ (by omega)]; exact p1 d (by omega)
        have bp := pkN_le (g := g) (S := S) hV hts q (show t ≤ frN V by omega) c
        have bs := smN_le (g := g) (S := S) hV hts q (show t + 1 ≤ frN V by omega) (updc c t r) r
        by_cases co : nbit (S 5 0) r
        · rw [if_neg (fun w => (hop.mp w) co)]
          refine fin _ ?_
          rw [ep, z3, imx_nI (by omega) (by omega), pkN_succ hr, if_pos co]
        · rw [if_pos (hop.mpr co)]
          refine fin _ ?_
          rw [ep, pkN_succ hr, if_neg co]
      · rw [if_pos (nI_le q (by omega)), Ok_some]
        have : i = V.1 3 := by omega
        subst this
        exact Or.inr ⟨0, rfl, K1, fun d hd r' hr' => by rw [e1 d hd r' hr', if_pos hd], p1⟩
    · rintro u ⟨z, μ1⟩ ⟨K1, e1, p1⟩
      dsimp only at K1 e1 p1 ⊢
      rw [Ok_some]
      refine ⟨⟨H1.of fun j hj => K1.2.1 134 j (by omega), fun d hd i hi r' hr' => ?_, e1, fun i hi d hd => ?_, fun i hi => ?_⟩, K1⟩
      · have hi4 : i < 4 := by unfold frN at hi; omega
        rw [K1.2.1 _ _ (by omega)]; exact H2 d hd i hi r' hr'
      · by_cases e : i = t + 1
        · rw [e]; exact p1 d hd
        · rw [K1.2.1 _ _ (by omega), pkN_upd (by omega)]; exact H4 i (by omega) d hd
      · rw [K1.2.1 _ _ (by omega)]
        unfold updc
        by_cases e : i = t
        · rw [if_pos e, e]; exact hch
        · rw [if_neg e]; exact H5 i (by omega)
  unfold f_X1_put
  rw [H1.2.2.2]
  by_cases co : nbit (S 5 0) r
  · rw [if_pos co]; exact go 1 ⟨fun w => absurd w (by decide), fun w => absurd co w⟩
  · rw [if_neg co]; exact go 0 ⟨fun _ => co, fun _ => rfl⟩
theorem takeDown (hV : HW V) {t r : Nat} {c : Nat → Nat} (H : HC μ V g ts S (t + 1) (updc c t r)) (ht : t < frN V) (hr : r < V.1 0) (Fr : Nat → Int32 → fMem → Option (Unit × fMem)) : Ok (lpn (fun (q : Int32 × fMem) => f_X1_hangFrom_L50 Fr 134 (nI t) (nI r) q.1 q.2) fuel ((0 : Int32), μ)) (fun _ q => HC q.2 V g ts S t c ∧ Kx (fun k _ => 163 ≤ k ∧ k < 169) BN μ q.2) := by
  have h6 : V.1 0 ≤ 6 := hV.1
  have hd6 : V.1 3 ≤ 6 := hV.2.2.2.1
  have ht4 : t < 4 := by unfold frN at ht; omega
  obtain ⟨H1, H2, H3, H4, H5⟩ := H
  refine Ok.mono (Q := fun u (q : Int32 × fMem) => Kx (fun k _ => 163 ≤ k ∧ k < 169) BN μ q.2 ∧ ∀ d, d < V.1 3 → ∀ r', r' < V.1 0 → q.2.1 (163 + d) r' = nI (smN V g ts S t c d r')) (Ok_lp (V.1 3) (fun i (q : Int32 × fMem) => q.1 = nI i ∧ Kx (fun k _ => 163 ≤ k ∧ k < 169) BN μ q.2 ∧ ∀ d, d < V.1 3 → ∀ r', r' < V.1 0 → q.2.1 (163 + d) r' = nI (if d < i then smN V g ts S t c d r' else smN V g ts S (t + 1) (updc c t r) d r')) (by omega) ⟨rfl, Kx.rfl', fun d hd r' hr' => by rw [if_neg (by omega)]; exact H3 d hd r' hr'⟩ ?_) ?_
  · rintro i ⟨z, μ1⟩ hi ⟨hz, K1, e1⟩
    dsimp only at hz K1 e1 ⊢
    subst hz
    have F1 := H1.of (μ' := μ1) (fun j hj => K1.2.1 134 j (by omega))
    unfold f_X1_hangFrom_L50
    simp only [Nat.reduceAdd]
    rw [F1.2.2.1]
    rcases Nat.lt_or_ge i (V.1 3) with q | q
    · have e6 : nI t * 6 + nI i = nI (t * 6 + i) := by rw [show (6 : Int32) = nI 6 from rfl, nI_mul, nI_add]
      rw [if_neg (nI_ge q (by omega)), e6]
      simp only [gd_t (show ixo (nI i) 6 from ixN (by omega) (by omega)), gd_t (show ixo (nI r) 6 from ixN (by omega) (by omega)), gd_t (show ixo (nI (t * 6 + i)) 24 from ixN (by omega) (by omega)), nI_clamp (show i < 2 ^ 31 by omega), nI_clamp (show r < 2 ^ 31 by omega), nI_clamp (show t * 6 + i < 2 ^ 31 by omega)]
      have es : μ1.1 (163 + i) r = nI (smN V g ts S (t + 1) (updc c t r) i r) := by rw [e1 i q r hr, if_neg (by omega)]
      have ew : μ1.1 (138 + (t * 6 + i)) r = nI (lkN V g ts S i t r) := by rw [K1.2.1 _ _ (by omega)]; exact H2 i q t ht r hr
      have esum : nI (smN V g ts S (t + 1) (updc c t r) i r) - nI (lkN V g ts S i t r) = nI (smN V g ts S t c i r) := by
        rw [smN_succ, if_pos rfl]; exact nI_sub _ _
      rw [es, ew, esum, Ok_vl, Ok_vl, nI_1, Ok_some]
      refine Or.inl ⟨rfl, q, rfl, K1.sI ⟨by omega, by omega⟩, fun d hd r' hr' => ?_⟩
      dsimp only
      rw [sI_i]
      by_cases ed : d = i
      · subst ed
        rw [if_pos (show d < d + 1 by omega)]
        by_cases er : r' = r
        · rw [if_pos ⟨rfl, er⟩, er]
        · rw [if_neg (fun w => er w.2), e1 d hd r' hr', if_neg (by omega), smN_succ, if_neg (fun w => er w.symm), Nat.add_zero]
      · rw [if_neg (by omega), e1 d hd r' hr']
        by_cases c4 : d < i
        · rw [if_pos c4, if_pos (by omega)]
        · rw [if_neg c4, if_neg (by omega)]
    · rw [if_pos (nI_le q (by omega)), Ok_some]
      have : i = V.1 3 := by omega
      subst this
      exact Or.inr ⟨0, rfl, K1, fun d hd r' hr' => by rw [e1 d hd r' hr', if_pos hd]⟩
  · rintro u ⟨z, μ1⟩ ⟨K1, e1⟩
    dsimp only at K1 e1 ⊢
    refine ⟨⟨H1.of fun j hj => K1.2.1 134 j (by omega), fun d hd i hi r' hr' => ?_, e1, fun i hi d hd => ?_, fun i hi => ?_⟩, K1⟩
    · have hi4 : i < 4 := by unfold frN at hi; omega
      rw [K1.2.1 _ _ (by omega)]; exact H2 d hd i hi r' hr'
    · have := H4 i (by omega) d hd
      rw [pkN_upd hi] at this
      rw [K1.2.1 _ _ (by omega)]; exact this
    · have := H5 i (by omega)
      unfold updc at this
      rw [if_neg (by omega)] at this
      rw [K1.2.1 _ _ (by omega)]; exact this
theorem compare_spec (hV : HW V) (hts : ∀ d, d < V.1 3 → Upto 9 (ts d)) {c : Nat → Nat} {a : Ac} (H : HC μ V g ts S (frN V) c) (A : AccR (μ.1 134 1) (μ.1 135) (frN V) a) : Ok (f_X1_compare 134 μ) (fun _ μ' => HC μ' V g ts S (frN V) c ∧ AccR (μ'.1 134 1) (μ'.1 135) (frN V) (leafA (lvN V g ts S) c a) ∧ Kx AG BN μ μ') := by
  have hd6 : V.1 3 ≤ 6 := hV.2.2.2.1
  have hF4 : frN V ≤ 4 := by unfold frN; omega
  have lv := lvN_le (g := g) (S := S) hV hts c
  unfold f_X1_compare
  rw [Ok_bd]
  refine Ok.mono (Q := fun u (q : Int32 × Int32 × fMem) => q.1 = nI (lvN V g ts S c) ∧ q.2.2 = μ) (Ok_lp (V.1 3) (fun i (q : Int32 × Int32 × fMem) => q.2.1 = nI i ∧ q.1 = nI (sumT i (fun d => pkN V g ts S (frN V) c d)) ∧ q.2.2 = μ) (by omega) ⟨rfl, rfl, rfl⟩ ?_) ?_
  · rintro i ⟨b, z, μ1⟩ hi ⟨hz, hb, hm⟩
    dsimp only at hz hb hm ⊢
    subst hz hb hm
    unfold f_X1_compare_L4
    simp only [Nat.reduceAdd]
    rw [H.1.2.2.1, H.1.1]
    rcases Nat.lt_or_ge i (V.1 3) with q | q
    · rw [if_neg (nI_ge q (by omega)), gd_t (ixN (by omega) (by omega)), gd_t (ixN (by omega) (by omega)), nI_clamp (by omega), nI_clamp (by omega), H.2.2.2.1 _ (Nat.le_refl _) i q, Ok_vl, Ok_vl, nI_1, nI_add, Ok_some]
      exact Or.inl ⟨rfl, q, rfl, rfl, rfl⟩
    · rw [if_pos (nI_le q (by omega)), Ok_some]
      have : i = V.1 3 := by omega
      subst this
      exact Or.inr ⟨0, rfl, rfl, rfl⟩
  · rintro u ⟨b, z, μ1⟩ ⟨hb, hm⟩
    dsimp only at hb hm ⊢
    subst hb hm
    have up : Ok (vl (sI μ1 134 1 (nI (lvN V g ts S c))) fun μ12 => gd (cpo (0 : Int32) (0 : Int32) (4 : Int32) 4 4) (vl (cpy μ12 (134 + 2) (0 : Int32) (134 + 1) (0 : Int32) (4 : Int32)) fun μ13 => some ((), μ13))) (fun _ μ' => HC μ' V g ts S (frN V) c ∧ AccR (μ'.1 134 1) (μ'.1 135) (frN V) (some (lvN V g ts S c, c)) ∧ Kx AG BN μ1 μ') := by
      simp only [Nat.reduceAdd]
      rw [Ok_vl, gd_t (by decide), Ok_vl, Ok_some]
      have zz : ∀ k j, ¬ (k = 135 ∨ (k = 134 ∧ j = 1)) → (cpy (sI μ1 134 1 (nI (lvN V g ts S c))) 136 0 135 0 4).1 k j = μ1.1 k j := fun k j w => by rw [cpy_ne (by omega), sI_i, if_neg (by omega)]
      refine ⟨⟨H.1.of fun j hj => zz _ _ (by omega), fun d hd i hi r' hr' => ?_, fun d hd r' hr' => ?_, fun i hi d hd => ?_, fun i hi => ?_⟩, ⟨?_, by omega, fun i hi => ?_⟩, ?_⟩
      · rw [zz _ _ (by omega)]; exact H.2.1 d hd i hi r' hr'
      · rw [zz _ _ (by omega)]; exact H.2.2.1 d hd r' hr'
      · rw [zz _ _ (by omega)]; exact H.2.2.2.1 i hi d hd
      · rw [zz _ _ (by omega)]; exact H.2.2.2.2 i hi
      · rw [cpy_ne (by omega), sI_i, if_pos ⟨rfl, rfl⟩]
      · rw [show (4 : Int32) = nI 4 from rfl, cpy_at (by omega) (by omega), sI_i, if_neg (by omega)]; exact H.2.2.2.2 i hi
      · refine ⟨rfl, fun k j w => zz k j (by omega), fun _ _ _ => rfl⟩
    cases a with
    | none =>
      have A : μ1.1 134 1 = -1 := A
      rw [A, if_neg (fun w => absurd w (Int32.not_le.mpr (Int32.lt_of_lt_of_le (show (-1 : Int32) < 0 by decide) (nI_pos' (by omega)))))]
      exact up
    | some p =>
      obtain ⟨a1, a2, a3⟩ := A
      rw [a1]
      have ul : leafA (lvN V g ts S) c (some p) = if p.1 < lvN V g ts S c then some (lvN V g ts S c, c) else some p := rfl
      rw [ul]
      by_cases cl : p.1 < lvN V g ts S c
      · rw [if_neg (nI_ge cl (by omega)), if_pos cl]; exact up
      · rw [if_pos (nI_le (by omega) a2), if_neg cl, Ok_some]
        exact ⟨H, ⟨a1, a2, a3⟩, Kx.rfl'⟩
theorem hangFrom_spec (hV : HW V) (hts : ∀ d, d < V.1 3 → Upto 9 (ts d)) : ∀ (n t k : Nat) (c : Nat → Nat) (a : Ac) (μ : fMem), t + n = frN V → n < k → HC μ V g ts S t c → AccR (μ.1 134 1) (μ.1 135) (frN V) a → Ok (fr_X1_hangFrom k 134 (nI t) μ) (fun _ μ' => HC μ' V g ts S t c ∧ AccR (μ'.1 134 1) (μ'.1 135) (frN V) (hgR (lvN V g ts S) (V.1 0) n t c a) ∧ Kx AG BN μ μ')
  | 0, t, k, c, a, μ, hn, hk, H, A => by
    obtain ⟨k, rfl⟩ : ∃ k', k = k' + 1 := ⟨k - 1, by omega⟩
    have hF4 : frN V ≤ 4 := by unfold frN; omega
    have ht : t = frN V := by omega
    subst ht
    show Ok (f_X1_hangFrom_b (fr_X1_hangFrom k) 134 (nI (frN V)) μ) _
    unfold f_X1_hangFrom_b f_X1_hangFrom_j13
    rw [H.1.1, if_pos (nI_le (Nat.le_refl _) (by omega)), Ok_bd]
    refine (compare_spec hV hts H A).mono ?_
    rintro - μ1 h
    exact Ok_some.mpr h
  | n + 1, t, k, c, a, μ, hn, hk, H, A => by
    obtain ⟨k, rfl⟩ : ∃ k', k = k' + 1 := ⟨k - 1, by omega⟩
    have h6 : V.1 0 ≤ 6 := hV.1
    have hF4 : frN V ≤ 4 := by unfold frN; omega
    show Ok (f_X1_hangFrom_b (fr_X1_hangFrom k) 134 (nI t) μ) _
    unfold f_X1_hangFrom_b
    rw [H.1.1, if_neg (nI_ge (by omega) (by omega)), if_pos (show nI t < 4 from nI_lt (b := 4) (by omega) (by omega)), Ok_bd]
    refine Ok.mono (Q := fun u (q : Int32 × fMem) => HC q.2 V g ts S t c ∧ AccR (q.2.1 134 1) (q.2.1 135) (frN V) (hgR (lvN V g ts S) (V.1 0) (n + 1) t c a) ∧ Kx AG BN μ q.2) (Ok_lp (V.1 0) (fun r (q : Int32 × fMem) => q.1 = nI r ∧ HC q.2 V g ts S t c ∧ AccR (q.2.1 134 1) (q.2.1 135) (frN V) (hgL (fun r a => hgR (lvN V g ts S) (V.1 0) n (t + 1) (updc c t r) a) r a) ∧ Kx AG BN μ q.2) (by omega) ⟨rfl, H, A, Kx.rfl'⟩ ?_) ?_
    · rintro r ⟨z, μ1⟩ hr ⟨hz, H1, A1, K1⟩
      dsimp only at hz H1 A1 K1 ⊢
      subst hz
      unfold f_X1_hangFrom_L20
      simp only [Nat.reduceAdd]
      rw [H1.1.2.1]
      rcases Nat.lt_or_ge r (V.1 0) with q | q
      · rw [if_neg (nI_ge q (by omega)), gd_t (ixN (by omega) (by omega)), nI_clamp (by omega), Ok_vl]
        have zz : ∀ k j, ¬ (k = 136 ∧ j = t) → (sI μ1 136 t (nI r)).1 k j = μ1.1 k j := fun k j w => by rw [sI_i, if_neg w]
        have zt : (sI μ1 136 t (nI r)).1 136 t = nI r := by rw [sI_i, if_pos ⟨rfl, rfl⟩]
        have H2 : HC (sI μ1 136 t (nI r)) V g ts S t c := ⟨H1.1.of fun j hj => zz _ _ (by omega), fun d hd i hi r' hr' => by rw [zz _ _ (by omega)]; exact H1.2.1 d hd i hi r' hr', fun d hd r' hr' => by rw [zz _ _ (by omega)]; exact H1.2.2.1 d hd r' hr', fun i hi d hd => by rw [zz _ _ (by omega)]; exact H1.2.2.2.1 i hi d hd, fun i hi => by rw [zz _ _ (by omega)]; exact H1.2.2.2.2 i hi⟩
        have A2 : AccR ((sI μ1 136 t (nI r)).1 134 1) ((sI μ1 136 t (nI r)).1 135) (frN V) (hgL (fun r a => hgR (lvN V g ts S) (V.1 0) n (t + 1) (updc c t r) a) r a) := by
          rw [zz 134 1 (by omega), show (sI μ1 136 t (nI r)).1 135 = μ1.1 135 by funext j; exact zz _ _ (by omega)]; exact A1
        have K2 : Kx AG BN μ (sI μ1 136 t (nI r)) := K1.sI (show 134 ≤ 136 by omega)
        generalize sI μ1 136 t (nI r) = μ2 at H2 A2 K2 zt ⊢
        rw [Ok_bd]
        refine (put_spec hV hts H2 (by omega) q zt).mono ?_
        rintro - μ3 ⟨H3, K3⟩
        have A3 : AccR (μ3.1 134 1) (μ3.1 135) (frN V) (hgL (fun r a => hgR (lvN V g ts S) (V.1 0) n (t + 1) (updc c t r) a) r a) := by
          rw [K3.2.1 134 1 (by omega), show μ3.1 135 = μ2.1 135 by funext j; exact K3.2.1 _ _ (by omega)]; exact A2
        rw [Ok_bd, nI_1]
        refine (hangFrom_spec hV hts n (t + 1) k (updc c t r) _ μ3 (by omega) (by omega) H3 A3).mono ?_
        rintro - μ4 ⟨H4, A4, K4⟩
        rw [Ok_bd]
        refine (takeDown hV H4 (by omega) q _).mono ?_
        rintro u ⟨z5, μ5⟩ ⟨H5, K5⟩
        dsimp only at H5 K5 ⊢
        rw [Ok_vl, nI_1, Ok_some]
        refine Or.inl ⟨rfl, q, rfl, H5, ?_, ((K2.trans (K3.wide (fun k j w => by unfold AG; omega) (fun _ _ z => z))).trans K4).trans (K5.wide (fun k j w => by unfold AG; omega) (fun _ _ z => z))⟩
        dsimp only
        rw [K5.2.1 134 1 (by omega), show μ5.1 135 = μ4.1 135 by funext j; exact K5.2.1 _ _ (by omega)]
        exact A4
      · rw [if_pos (nI_le q (by omega)), Ok_some]
        have : r = V.1 0 := by omega
        subst this
        exact Or.inr ⟨0, rfl, H1, A1, K1⟩
    · rintro u ⟨z, μ1⟩ h
      exact Ok_some.mpr h
theorem KE.ag {μ' : fMem} (K : Kx AG BN μ μ') : KE μ μ' := ⟨fun k hk => by funext j; exact K.2.1 k j (by unfold AG; omega), fun k j _ => by rw [K.1]⟩
theorem workH_spec {h : Nat} (C : Crs μ V h 66 S g ts) (hS : SR V S) (hts : ∀ d, d < V.1 3 → Upto 9 (ts d)) : Ok (f_X1_work 134 h 66 84 μ) (fun _ μ' => AccR (μ'.1 134 1) (μ'.1 135) (frN V) (hgR (lvN V g ts S) (V.1 0) (frN V) 0 (fun _ => 0) none) ∧ KE μ μ' ∧ CC μ' V) := by
  have hV := C.1
  have h6 : V.1 0 ≤ 6 := hV.1
  have h8 : V.1 2 ≤ 8 := hV.2.2.1
  have hd6 : V.1 3 ≤ 6 := hV.2.2.2.1
  have mn : ∀ a b : Nat, a < 2 ^ 31 → b < 2 ^ 31 → imn (nI a) (nI b) = nI (min a b) := fun a b ha hb => by
    unfold imn
    by_cases c : b < a
    · rw [if_pos (nI_lt c ha), show min a b = b by omega]
    · rw [if_neg (nI_nlt (by omega) hb), show min a b = a by omega]
  unfold f_X1_work
  have sA1 : ∀ (μa : fMem) (j : Nat) (v : Int32), Crs μa V h 66 S g ts → Crs (sI μa 134 j v) V h 66 S g ts := fun μa j v Ca => Ca.kx (A := fun k _ => k = 134) (Kx.rfl'.sI rfl) (fun k j w => by omega) (Ca.2.2.2.2.2.of (by funext j'; rw [sI_i, if_neg (by omega)]) rfl)
  have C1 := sA1 μ 2 (nI (frN V)) C
  have C2 := sA1 _ 3 (nI (V.1 0)) C1
  have C3 := sA1 _ 4 (nI (V.1 3)) C2
  have C4 := sA1 _ 5 (S 5 0) C3
  rw [told2 C.2.2.1, bd_some, show imn 4 (nI (V.1 2)) = nI (frN V) from mn 4 _ (by omega) (by omega), Ok_vl, told0 C1.2.2.1, bd_some, show imn 6 (nI (V.1 0)) = nI (V.1 0) from (mn 6 _ (by omega) (by omega)).trans (by rw [show min 6 (V.1 0) = V.1 0 by omega]), Ok_vl, told3 C2.2.2.1, bd_some, show imn 6 (nI (V.1 3)) = nI (V.1 3) from (mn 6 _ (by omega) (by omega)).trans (by rw [show min 6 (V.1 3) = V.1 3 by omega]), Ok_vl, C3.2.2.2.1.2.2.2.2.2.1, Ok_vl]
  have H4 : HF (sI (sI (sI (sI μ 134 2 (nI (frN V))) 134 3 (nI (V.1 0))) 134 4 (nI (V.1 3))) 134 5 (S 5 0)) V S := by
    unfold HF
    simp [sI_i]
  have E4 : KE μ (sI (sI (sI (sI μ 134 2 (nI (frN V))) 134 3 (nI (V.1 0))) 134 4 (nI (V.1 3))) 134 5 (S 5 0)) := ((((KE.s (by omega)).trans (KE.s (by omega))).trans (KE.s (by omega))).trans (KE.s (by omega)))
  generalize sI (sI (sI (sI μ 134 2 (nI (frN V))) 134 3 (nI (V.1 0))) 134 4 (nI (V.1 3))) 134 5 (S 5 0) = μ4 at C4 H4 E4 ⊢
  rw [Ok_bd]
  refine Ok.mono (Q := fun u (q : Int32 × fMem) => KE μ4 q.2 ∧ CC q.2 V ∧ HF q.2 V S ∧ ∀ d, d < V.1 3 → (∀ r, r < V.1 0 → q.2.1 (163 + d) r = nI (bsN V g ts S d r)) ∧ (∀ t, t < frN V → ∀ r, r < V.1 0 → q.2.1 (138 + (t * 6 + d)) r = nI (lkN V g ts S d t r)) ∧ q.2.1 170 d = nI (mxO (fun r => nbit (S 5 0) r) (bsN V g ts S d) (V.1 0))) (Ok_lp (V.1 3) (fun i (q : Int32 × fMem) => q.1 = nI i ∧ KE μ4 q.2 ∧ Crs q.2 V h 66 S g ts ∧ HF q.2 V S ∧ ∀ d, d < i → (∀ r, r < V.1 0 → q.2.1 (163 + d) r = nI (bsN V g ts S d r)) ∧ (∀ t, t < frN V → ∀ r, r < V.1 0 → q.2.1 (138 + (t * 6 + d)) r = nI (lkN V g ts S d t r)) ∧ q.2.1 170 d = nI (mxO (fun r => nbit (S 5 0) r) (bsN V g ts S d) (V.1 0))) (by omega) ⟨rfl, KE.rfl', C4, H4, fun d hd => by omega⟩ ?_) ?_
  · rintro i ⟨z, μ5⟩ hi ⟨hz, E5, C5, H5, w5⟩
    dsimp only at hz E5 C5 H5 w5 ⊢
    subst hz
    unfold f_X1_work_L52
    rw [H5.2.2.1]
    rcases Nat.lt_or_ge i (V.1 3) with q | q
    · rw [if_neg (nI_ge q (by omega)), Ok_bd]
      refine (weighH_spec C5 hS hts H5 q).mono ?_
      rintro - μ6 ⟨K6, cc6, a6, b6, p6⟩
      rw [Ok_vl, nI_1, Ok_some]
      refine Or.inl ⟨rfl, q, rfl, E5.trans ⟨fun k hk => by funext j; exact K6.2.1 k j (by unfold AH; omega), fun k j _ => by rw [K6.1]⟩, C5.kx K6 AH_ok cc6, H5.of fun j hj => K6.2.1 134 j (by unfold AH; omega), fun d hd => ?_⟩
      by_cases e : d = i
      · subst e; exact ⟨a6, b6, p6⟩
      · obtain ⟨x1, x2, x3⟩ := w5 d (by omega)
        refine ⟨fun r hr => ?_, fun t ht r hr => ?_, ?_⟩
        · rw [K6.2.1 _ _ (by unfold AH; omega)]; exact x1 r hr
        · have ht4 : t < 4 := by unfold frN at ht; omega
          rw [K6.2.1 _ _ (by unfold AH; omega)]; exact x2 t ht r hr
        · rw [K6.2.1 _ _ (by unfold AH; omega)]; exact x3
    · rw [if_pos (nI_le q (by omega)), Ok_some]
      have : i = V.1 3 := by omega
      subst this
      exact Or.inr ⟨0, rfl, E5, C5.2.2.2.2.2, H5, w5⟩
  · rintro u ⟨z, μ5⟩ ⟨E5, cc5, H5, w5⟩
    dsimp only at E5 cc5 H5 w5 ⊢
    rw [Ok_vl]
    have zz : ∀ k j, ¬ (k = 134 ∧ j = 1) → (sI μ5 134 1 (-1)).1 k j = μ5.1 k j := fun k j w => by rw [sI_i, if_neg w]
    have H6 : HC (sI μ5 134 1 (-1)) V g ts S 0 (fun _ => 0) := by
      refine ⟨H5.of fun j hj => zz _ _ (by omega), fun d hd i hi r hr => ?_, fun d hd r hr => ?_, fun i hi d hd => ?_, fun i hi => by omega⟩
      · rw [zz _ _ (by omega)]; exact (w5 d hd).2.1 i hi r hr
      · rw [zz _ _ (by omega)]; exact (w5 d hd).1 r hr
      · have : i = 0 := by omega
        subst this
        rw [zz _ _ (by omega)]; exact (w5 d hd).2.2
    have A6 : AccR ((sI μ5 134 1 (-1)).1 134 1) ((sI μ5 134 1 (-1)).1 135) (frN V) none := by
      show _ = _
      rw [sI_i, if_pos ⟨rfl, rfl⟩]
    have E6 : KE μ5 (sI μ5 134 1 (-1)) := KE.s (by omega)
    have cc6 : CC (sI μ5 134 1 (-1)) V := cc5.of (by funext j; exact zz _ _ (by omega)) rfl
    generalize sI μ5 134 1 (-1) = μ6 at H6 A6 E6 cc6 ⊢
    unfold f_X1_hangFrom
    rw [Ok_bd]
    refine (hangFrom_spec hV hts (frN V) 0 8 (fun _ => 0) none μ6 (by omega) (by unfold frN; omega) H6 A6).mono ?_
    rintro - μ7 ⟨H7, A7, K7⟩
    rw [Ok_some]
    exact ⟨A7, ((E4.trans E5).trans E6).trans (KE.ag K7), cc6.of (by funext j; exact K7.2.1 _ _ (by unfold AG; omega)) (by funext j; exact K7.2.2 _ _ id)⟩
end H
end Sim20
