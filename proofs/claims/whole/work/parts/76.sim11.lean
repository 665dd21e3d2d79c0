/-! Mondays tried otherwise -/
section Sim11
def trS (S : SV) (w : Nat) (i : Int32) : SV := if w = 1 then up S 5 0 0 else if w = 5 then up S 0 i.toNatClampNeg (-1) else S
theorem stS_up5 {V : HV} {S : SV} {v : Int32} : stS V (up S 5 0 v) = stS V S := by
  unfold stS
  rw [sumN_upo (by omega), sumN_upo (by omega)]
theorem stS_tr {V : HV} {S : SV} {w : Nat} {i : Int32} : stS V (trS S w i) = stS V S := by
  unfold trS
  split
  · exact stS_up5
  · split
    · exact stS_up0
    · rfl
theorem SW.put5 {V : HV} {S : SV} (H : SW V S) {v : Int32} : SW V (up S 5 0 v) := H.put1 (by omega) (by omega) (fun z => by omega) (fun z => by omega) (fun z => by omega)
theorem SW.putN {V : HV} {S : SV} (H : SW V S) {j : Nat} : SW V (up S 0 j (-1)) := by
  refine ⟨fun t ht => ?_, ?_, fun k a b => ⟨?_, ?_⟩, fun k a b => ?_⟩
  · by_cases q : 0 = 0 ∧ t = j
    · unfold up; rw [if_pos q]; exact Or.inl rfl
    · rw [up_ne q]; exact H.1 t ht
  · rw [up_ne (by omega)]; exact H.2.1
  · rw [up_ne (by omega)]; exact (H.2.2.1 k a b).1
  · rw [up_ne (by omega)]; exact (H.2.2.1 k a b).2
  · rw [up_ne (by omega)]; exact H.2.2.2 k a b
theorem trS_w {V : HV} {S : SV} (H : SW V S) {w : Nat} {i : Int32} : SW V (trS S w i) := by
  unfold trS
  split
  · exact H.put5
  · split
    · exact H.putN
    · exact H
theorem trS_6 {S : SV} {w : Nat} {i : Int32} : trS S w i 6 0 = S 6 0 := by
  unfold trS
  split
  · rw [up_ne (by omega)]
  · split
    · rw [up_ne (by omega)]
    · rfl
def triS (V : HV) (S : SV) (w : Nat) (i : Int32) (n : Nat) : Int32 := if w = 4 then 0 else stS V (passS V (V.2.1 3) (abO (nI w) i) (alO (nI w)) 0 n (trS S w i, 0)).1 - stS V S
theorem MSt.tr {ν : fMem} {V : HV} {x : Nat} {S : SV} {w : Nat} {i : Int32} (hw : w ≤ 5) (h5 : w = 5 → ∃ t, t < V.1 2 ∧ i = nI t) (h8 : V.1 2 ≤ 8) (H : MSt ν x V S 0 (-1)) : MSt ν x V (trS S w i) (nI w) i := by
  obtain ⟨a1, a2, a3, a4, a5, a6, a7⟩ := H
  have z0 : ∀ j, j < V.1 2 → ν.1 206 (8 * x + j) = S 0 j := fun j hj => by
    have := a1 j hj
    rwa [if_neg (fun z => absurd z.1 (by decide))] at this
  rw [if_neg (by decide)] at a6
  have e1 : nI w = 1 ↔ w = 1 := nI_eq (a := w) (b := 1) (by omega) (by omega)
  have e5 : nI w = 5 ↔ w = 5 := nI_eq (a := w) (b := 5) (by omega) (by omega)
  have o : ∀ k j, ¬ k = 0 → ¬ k = 5 → trS S w i k j = S k j := by
    intro k j h0 h5
    unfold trS
    split
    · rw [up_ne (by omega)]
    · split
      · rw [up_ne (by omega)]
      · rfl
  refine ⟨fun j hj => ?_, fun j hj => ?_, fun j hj => ?_, fun j hj => ?_, fun j hj => ?_, ?_, ?_⟩
  · rw [z0 j hj]
    unfold trS
    by_cases w5 : w = 5
    · obtain ⟨t, ht, rfl⟩ := h5 w5
      rw [if_neg (show ¬ w = 1 by omega), if_pos w5, nI_clamp (by omega)]
      by_cases q : j = t
      · subst q; rw [if_pos ⟨e5.mpr w5, rfl⟩, up_at]
      · rw [if_neg (fun z => q ((nI_eq (by omega) (by omega)).mp z.2)), up_ne (by omega)]
    · rw [if_neg (fun z => w5 (e5.mp z.1))]
      split
      · rw [up_ne (by omega)]
      · rfl
  · rw [o _ _ (by omega) (by omega)]; exact a2 j hj
  · rw [o _ _ (by omega) (by omega)]; exact a3 j hj
  · rw [o _ _ (by omega) (by omega)]; exact a4 j hj
  · rw [o _ _ (by omega) (by omega)]; exact a5 j hj
  · unfold trS
    by_cases w1 : w = 1
    · rw [if_pos (e1.mpr w1), if_pos w1, up_at]
    · rw [if_neg (fun z => w1 (e1.mp z)), if_neg w1]
      split
      · rw [up_ne (by omega)]; exact a6
      · exact a6
  · rw [o _ _ (by omega) (by omega)]; exact a7
theorem Crp.pass {μ : fMem} {V : HV} {h : Nat} {S : SV} {ab al : Int32} {k n m : Nat} (C : Crp μ V h 78 S (V.2.1 3) ab al 0 k) (hn : n ≤ 60) (hm : S 6 0 = nI m) (hm2 : m ≤ 9900) (e0 : μ.1 84 0 = 0) (e1 : μ.1 84 1 = 0) (hk : k = 0) : Ok (f_X10_tried_j138 0 (nI n) μ) (fun r μ' => r = stS V (passS V (V.2.1 3) ab al 0 n (S, 0)).1 - stS V S ∧ KE μ μ' ∧ CC μ' V) := by
  subst hk
  unfold f_X10_tried_j138
  simp only [Nat.reduceAdd]
  rw [Ok_bd]
  refine (pass_spec C (n := n) (by omega) hm (by omega)).mono ?_
  rintro - μ2 ⟨C2, K2⟩
  rw [mvs K2 e0 e1, Ok_some]
  exact ⟨rfl, K2.ke, C2.2.2.2.2.2⟩
theorem Crp.set {μ : fMem} {V : HV} {h : Nat} {S S' : SV} {ts : Nat → Int32} {ab al ab' al' : Int32} {k c j : Nat} {v : Int32} (C : Crp μ V h 78 S ts ab al 0 k) (hc : (c = 78 ∧ j = 5 ∧ S' = up S 5 0 v ∧ ab' = ab ∧ al' = al) ∨ (c = 84 ∧ j = 2 ∧ S' = S ∧ ab' = v ∧ al' = al) ∨ (c = 84 ∧ j = 3 ∧ S' = S ∧ ab' = ab ∧ al' = v)) : Crp (sI μ c j v) V h 78 S' ts ab' al' 0 k := by
  obtain ⟨c1, c2, c3, c4, c5, c6⟩ := C
  have hh := c5.1
  have zf : ∀ d, ¬ d = c → (sI μ c j v).1 d = μ.1 d := fun d hd => by funext j'; rw [sI_i, if_neg (by omega)]
  obtain ⟨d1, d2, d3, d4, d5, d6, d7, d8, d9⟩ := c5
  have h3 : CH (sI μ c j v) h V := c3.of fun d a b => zf d (by rcases hh with rfl | rfl <;> omega)
  have h6 : CC (sI μ c j v) V := c6.of (zf 122 (by omega)) rfl
  rcases hc with ⟨rfl, rfl, rfl, rfl, rfl⟩ | ⟨rfl, rfl, rfl, rfl, rfl⟩ | ⟨rfl, rfl, rfl, rfl, rfl⟩
  · refine ⟨c1, c2.put5, h3, c4.put5 v, ⟨d1, d2, d3, d4, ?_, ?_, ?_, ?_, d9⟩, h6⟩
    · rw [zf 84 (by omega)]; exact d5
    · rw [zf 84 (by omega)]; exact d6
    · rw [zf 84 (by omega)]; exact d7
    · rw [zf 84 (by omega)]; exact d8
  · refine ⟨c1, c2, h3, c4.of fun d a b => zf d (by omega), ⟨d1, d2, d3, d4, ?_, ?_, ?_, ?_, d9⟩, h6⟩
    · rw [sI_i, if_neg (by omega), sI_i, if_neg (by omega)]; exact d5
    · rw [sI_i, if_pos ⟨rfl, rfl⟩]
    · rw [sI_i, if_neg (by omega)]; exact d7
    · rw [sI_i, if_neg (by omega)]; exact d8
  · refine ⟨c1, c2, h3, c4.of fun d a b => zf d (by omega), ⟨d1, d2, d3, d4, ?_, ?_, ?_, ?_, d9⟩, h6⟩
    · rw [sI_i, if_neg (by omega), sI_i, if_neg (by omega)]; exact d5
    · rw [sI_i, if_neg (by omega)]; exact d6
    · rw [sI_i, if_pos ⟨rfl, rfl⟩]
    · rw [sI_i, if_neg (by omega)]; exact d8
theorem triedC {μ : fMem} {V : HV} {S : SV} {X : RX} {h w n : Nat} {i : Int32} (hV : HW V) (hS : SR V S) (C : RC μ V S X h) (hw : w ≤ 5) (hn : n ≤ 60) (h5 : w = 5 → ∃ t, t < V.1 2 ∧ i = nI t) : QC (f_X10_tried_j64 0 (nI w) i (nI n) 1 μ) μ V (triS V S w i n) := by
  have cc := C.2.2.2.2.2.1
  have h8 : V.1 2 ≤ 8 := hV.2.2.1
  obtain ⟨m, hm, em⟩ := hS.2.1
  unfold f_X10_tried_j64
  rw [if_neg (by decide)]
  unfold triS
  by_cases w4 : w = 4
  · subst w4
    rw [if_pos (show nI 4 = 4 from rfl), if_pos rfl]
    exact qc_some cc
  have ne1 : nI w = 1 ↔ w = 1 := nI_eq (a := w) (b := 1) (by omega) (by omega)
  have ne2 : nI w = 2 ↔ w = 2 := nI_eq (a := w) (b := 2) (by omega) (by omega)
  have ne3 : nI w = 3 ↔ w = 3 := nI_eq (a := w) (b := 3) (by omega) (by omega)
  have ne4 : nI w = 4 ↔ w = 4 := nI_eq (a := w) (b := 4) (by omega) (by omega)
  have ne5 : nI w = 5 ↔ w = 5 := nI_eq (a := w) (b := 5) (by omega) (by omega)
  rw [if_neg (fun z => w4 (ne4.mp z)), if_neg w4]
  refine Ok_bd.mpr ((try_spec hV hS C).mono ?_)
  rintro - μ1 ⟨C1, P1, K1, e0, e1⟩
  have CP1 := C1.crp P1
  unfold f_X10_tried_j97 f_X10_tried_j110 f_X10_tried_j123
  simp only [Nat.reduceAdd]
  rw [← stS_tr (V := V) (S := S) (w := w) (i := i)]
  have em' : trS S w i 6 0 = nI m := trS_6.trans em
  by_cases w1 : w = 1
  · subst w1
    rw [if_pos (show nI 1 = 1 from rfl), Ok_vl, if_neg (show ¬ nI 1 = 2 by decide), if_neg (show ¬ nI 1 = 3 by decide), if_neg (show ¬ nI 1 = 5 by decide)]
    refine (Crp.pass (CP1.set (c := 78) (j := 5) (v := 0) (S' := trS S 1 i) (ab' := abO (nI 1) i) (al' := alO (nI 1)) (Or.inl ⟨rfl, rfl, rfl, rfl, rfl⟩)) hn em' hm ?_ ?_ rfl).mono ?_
    · rw [sI_i, if_neg (by omega)]; exact e0
    · rw [sI_i, if_neg (by omega)]; exact e1
    · rintro r μ3 ⟨rfl, K3, c3⟩
      exact ⟨rfl, (K1.trans (KE.s (by omega))).trans K3, c3⟩
  · rw [if_neg (fun z => w1 (ne1.mp z))]
    by_cases w2 : w = 2
    · subst w2
      rw [if_pos (show nI 2 = 2 from rfl), Ok_vl, if_neg (show ¬ nI 2 = 3 by decide), if_neg (show ¬ nI 2 = 5 by decide)]
      refine (Crp.pass (CP1.set (c := 84) (j := 2) (v := i) (S' := trS S 2 i) (ab' := abO (nI 2) i) (al' := alO (nI 2)) (Or.inr (Or.inl ⟨rfl, rfl, rfl, rfl, rfl⟩))) hn em' hm ?_ ?_ rfl).mono ?_
      · rw [sI_i, if_neg (by omega)]; exact e0
      · rw [sI_i, if_neg (by omega)]; exact e1
      · rintro r μ3 ⟨rfl, K3, c3⟩
        exact ⟨rfl, (K1.trans (KE.s (by omega))).trans K3, c3⟩
    · rw [if_neg (fun z => w2 (ne2.mp z))]
      by_cases w3 : w = 3
      · subst w3
        rw [if_pos (show nI 3 = 3 from rfl), Ok_vl, if_neg (show ¬ nI 3 = 5 by decide)]
        refine (Crp.pass (CP1.set (c := 84) (j := 3) (v := 1) (S' := trS S 3 i) (ab' := abO (nI 3) i) (al' := alO (nI 3)) (Or.inr (Or.inr ⟨rfl, rfl, rfl, rfl, rfl⟩))) hn em' hm ?_ ?_ rfl).mono ?_
        · rw [sI_i, if_neg (by omega)]; exact e0
        · rw [sI_i, if_neg (by omega)]; exact e1
        · rintro r μ3 ⟨rfl, K3, c3⟩
          exact ⟨rfl, (K1.trans (KE.s (by omega))).trans K3, c3⟩
      · rw [if_neg (fun z => w3 (ne3.mp z))]
        by_cases w5 : w = 5
        · subst w5
          obtain ⟨t, ht, rfl⟩ := h5 rfl
          rw [if_pos (show nI 5 = 5 from rfl), gd_t (ixN (by omega) (by omega)), nI_clamp (by omega), Ok_vl]
          have CP2 := CP1.put0 (t := t) (v := -1) ht hS.w.putN
          have et : trS S 5 (nI t) = up S 0 t (-1) := by unfold trS; rw [if_neg (by omega), if_pos rfl, nI_clamp (by omega)]
          rw [et] at em' ⊢
          refine (Crp.pass CP2 hn em' hm ?_ ?_ rfl).mono ?_
          · rw [sI_i, if_neg (by omega)]; exact e0
          · rw [sI_i, if_neg (by omega)]; exact e1
          · rintro r μ3 ⟨rfl, K3, c3⟩
            exact ⟨rfl, (K1.trans (KE.s (by omega))).trans K3, c3⟩
        · rw [if_neg (fun z => w5 (ne5.mp z))]
          have w0 : w = 0 := by omega
          subst w0
          refine (Crp.pass CP1 hn em hm e0 e1 rfl).mono ?_
          rintro r μ3 ⟨rfl, K3, c3⟩
          exact ⟨rfl, K1.trans K3, c3⟩
theorem triedM {ν : fMem} {V : HV} {S : SV} {X : RX} {w n : Nat} {i : Int32} (hV : HW V) (hS : SR V S) (hX : XW V X) (M : RM ν V S X) (hw : w ≤ 5) (hn : n ≤ 60) (h5 : w = 5 → ∃ t, t < V.1 2 ∧ i = nI t) : QM (f_X11_tried_j49 181 (nI w) i (nI n) 1 ν) ν (triS V S w i n) := by
  have h8 : V.1 2 ≤ 8 := hV.2.2.1
  have h6 : V.1 3 ≤ 6 := hV.2.2.2.1
  obtain ⟨m, hm, em⟩ := hS.2.1
  unfold f_X11_tried_j49 f_X11_runs
  rw [if_neg (by decide), if_neg (nI_pos (by omega)), if_pos (show nI n ≤ 60 from nI_le (b := 60) hn (by omega))]
  refine Ok_vl.mpr (Ok_vl.mpr (Ok_bd.mpr (Ok_bd.mpr ?_)))
  have za : ∀ c j, ¬ (c = 181 ∧ 47 ≤ j ∧ j ≤ 48) → (sI (sI ν 181 47 (nI w)) 181 48 i).1 c j = ν.1 c j := fun c j hc => by rw [sI_i, if_neg (by omega), sI_i, if_neg (by omega)]
  have z7 : (sI (sI ν 181 47 (nI w)) 181 48 i).1 181 47 = nI w := by rw [sI_i, if_neg (by omega), sI_i, if_pos ⟨rfl, rfl⟩]
  have z8 : (sI (sI ν 181 47 (nI w)) 181 48 i).1 181 48 = i := by rw [sI_i, if_pos ⟨rfl, rfl⟩]
  have K0 : Kx (fun c j => AE c j ∨ (c = 181 ∧ 47 ≤ j ∧ j ≤ 48)) B0 ν (sI (sI ν 181 47 (nI w)) 181 48 i) := (Kx.rfl'.sI (Or.inr ⟨rfl, by omega, by omega⟩)).sI (Or.inr ⟨rfl, by omega, by omega⟩)
  generalize sI (sI ν 181 47 (nI w)) 181 48 i = ν0 at za z7 z8 K0 ⊢
  refine (copies_spec (x := 0) (y := 1) (by omega) (by omega) (by omega)).mono ?_
  rintro - ν1 ⟨K1, cp⟩
  have zb : ∀ c j, ¬ Px 1 c j → ¬ (c = 181 ∧ 47 ≤ j ∧ j ≤ 48) → ν1.1 c j = ν.1 c j := fun c j h1 h2 => (K1.2.1 c j h1).trans (za c j h2)
  have mS0 : MSt ν0 0 V S 0 (-1) := M.2.1.of h8 (fun c a b j hj => za _ _ (by omega)) (fun c a b j hj => za _ _ (by omega)) (za _ _ (by omega)) (za _ _ (by omega))
  have P1 : Mrp ν1 V 1 (trS S w i) (V.2.1 3) (nI w) i (-1) := by
    refine ⟨hV, trS_w hS.w, M.1.of hV (fun c a b j _ => zb c j (by unfold Px; omega) (by omega)), MSt.tr hw h5 h8 (mS0.cpd h8 cp), ⟨?_, ?_, fun d hd => ⟨(hV.2.2.2.2.2.2.2.1 d hd).1, ?_⟩, ?_⟩, by omega⟩
    · rw [K1.2.1 181 47 (by unfold Px; omega)]; exact z7
    · rw [K1.2.1 181 48 (by unfold Px; omega)]; exact z8
    · rw [zb 181 50 (by unfold Px; omega) (by omega), M.2.2.1.2.2.2, if_neg (nI_nm1 (by omega))]
    · rw [zb 181 49 (by unfold Px; omega) (by omega)]; exact M.2.2.1.2.2.1
  rw [Ok_bd]
  refine (goesOn_spec P1 (trS_6.trans em) (by omega) (by omega)).mono ?_
  rintro - ν2 ⟨S2, P2, K2, a1, a2⟩
  rw [Ok_some, Ok_vl, Ok_vl]
  have zc : ∀ c j, ¬ (c = 181 ∧ 47 ≤ j ∧ j ≤ 48) → (sI (sI ν2 181 47 0) 181 48 (-1)).1 c j = ν2.1 c j := fun c j hc => by rw [sI_i, if_neg (by omega), sI_i, if_neg (by omega)]
  have KK : KR ν (sI (sI ν2 181 47 0) 181 48 (-1)) := by
    have K12 : Kx (fun c j => AE c j ∨ (c = 181 ∧ 47 ≤ j ∧ j ≤ 48)) B0 ν ν2 := (K0.trans (K1.wide (fun _ _ z => Or.inl (Or.inr (Or.inl z))) (fun _ _ z => absurd z id))).trans (K2.r.wide (fun _ _ z => Or.inl z) (fun _ _ z => z))
    refine ⟨K12.1, fun c j hc => ?_, K12.2.2⟩
    by_cases q : c = 181 ∧ 47 ≤ j ∧ j ≤ 48
    · obtain ⟨rfl, q1, q2⟩ := q
      by_cases j7 : j = 47
      · subst j7
        rw [sI_i, if_neg (by omega), sI_i, if_pos ⟨rfl, rfl⟩]
        exact M.2.2.1.1.symm
      · have j8 : j = 48 := by omega
        subst j8
        rw [sI_i, if_pos ⟨rfl, rfl⟩]
        exact M.2.2.1.2.1.symm
    · rw [zc c j q]
      exact K12.2.1 c j (by rintro (z | z); exact hc z; exact q z)
  have M3 := M.kr hV hX KK
  have m3 : MSt (sI (sI ν2 181 47 0) 181 48 (-1)) 1 V S2 (nI w) i := P2.2.2.2.1.of h8 (fun c a b j hj => zc _ _ (by omega)) (fun c a b j hj => zc _ _ (by omega)) (zc _ _ (by omega)) (zc _ _ (by omega))
  generalize sI (sI ν2 181 47 0) 181 48 (-1) = ν3 at KK M3 m3 ⊢
  rw [show f_X11_stirs 181 1 ν3 = some (stS V S2, ν3) from stirs_eq (x := 1) M3.1 hV m3 (by decide), bd_some, show f_X11_stirs 181 0 ν3 = some (stS V S, ν3) from stirs_eq (x := 0) M3.1 hV M3.2.1 (by decide), bd_some, Ok_some]
  refine ⟨?_, KK⟩
  unfold triS
  by_cases w4 : w = 4
  · rw [if_pos w4]
    have := a2 (by rw [w4]; rfl)
    have e : stS V S2 = stS V S := by
      rw [← stS_tr (V := V) (S := S) (w := w) (i := i)]
      unfold stS
      rw [this.1, this.2]
    rw [e, Int32.sub_self]
  · rw [if_neg w4, a1 (fun z => w4 ((nI_eq (a := w) (b := 4) (by omega) (by omega)).mp z))]
theorem sim_tried (a b c : Int32) : Sim Rel (f_X10_tried 0 a b c) (f_X11_tried 181 a b c) := by
  refine simQ fun μ ν V S X h hV hS hX C M => ?_
  have cc := C.2.2.2.2.2.1
  have h8 : V.1 2 ≤ 8 := hV.2.2.1
  have h6 : V.1 3 ≤ 6 := hV.2.2.2.1
  by_cases a0 : a < 0
  · refine ⟨-1, ?_, ?_⟩
    · unfold f_X10_tried; rw [if_pos a0]; exact qc_some cc
    · unfold f_X11_tried f_X11_tried_j48 f_X11_tried_j49
      refine qm_th hV hX M fun ν1 K M => ?_
      rw [if_neg (fun z => by rw [z] at a0; exact absurd a0 (by decide)), if_neg (fun z => by rw [z] at a0; exact absurd a0 (by decide)), if_pos a0, if_pos rfl]; exact qm_some K
  by_cases a5 : 5 < a
  · refine ⟨-1, ?_, ?_⟩
    · unfold f_X10_tried; rw [if_neg a0, if_pos a5]; exact qc_some cc
    · unfold f_X11_tried f_X11_tried_j48 f_X11_tried_j49
      refine qm_th hV hX M fun ν1 K M => ?_
      rw [if_neg (fun z => by rw [z] at a5; exact absurd a5 (by decide)), if_neg (fun z => by rw [z] at a5; exact absurd a5 (by decide)), if_neg a0, if_pos (Int32.lt_trans (by decide) a5), if_pos rfl]; exact qm_some K
  obtain ⟨w, hw, rfl⟩ := nI_of2 (x := a) (M := 5) (n := 5) (by decide) a0 (Int32.not_lt.mp a5)
  have ne1 : nI w = 1 ↔ w = 1 := nI_eq (a := w) (b := 1) (by omega) (by omega)
  have ne2 : nI w = 2 ↔ w = 2 := nI_eq (a := w) (b := 2) (by omega) (by omega)
  have ne3 : nI w = 3 ↔ w = 3 := nI_eq (a := w) (b := 3) (by omega) (by omega)
  have ne4 : nI w = 4 ↔ w = 4 := nI_eq (a := w) (b := 4) (by omega) (by omega)
  have ne5 : nI w = 5 ↔ w = 5 := nI_eq (a := w) (b := 5) (by omega) (by omega)
  generalize hsu : (if w = 2 then (if hs (V.1 3) b then (1 : Int32) else 0) else if w = 5 then (if hs (V.1 2) b then 1 else 0) else if b = 0 then 1 else 0) = su
  have suM : ∀ ν1, RM ν1 V S X → ∀ Q : Int32 → fMem → Prop, Ok (f_X11_tried_j49 181 (nI w) b c su ν1) Q → Ok (if nI w = 2 then bd (f_X11_isDead 181 b ν1) fun r11 μ10 => f_X11_tried_j49 181 (nI w) b c r11 μ10 else if nI w = 5 then bd (f_X11_isThing 181 b ν1) fun r8 μ7 => f_X11_tried_j49 181 (nI w) b c r8 μ7 else if nI w < 0 then f_X11_tried_j48 181 (nI w) b c ν1 else if 4 < nI w then f_X11_tried_j48 181 (nI w) b c ν1 else if b = 0 then f_X11_tried_j49 181 (nI w) b c 1 ν1 else f_X11_tried_j48 181 (nI w) b c ν1) Q := by
    intro ν1 M1 Q H
    rw [← hsu] at H
    by_cases w2 : w = 2
    · rw [if_pos (ne2.mpr w2), isDead_eq M1.1, bd_some]
      rw [if_pos w2] at H; exact H
    · rw [if_neg (fun z => w2 (ne2.mp z))]
      rw [if_neg w2] at H
      by_cases w5 : w = 5
      · rw [if_pos (ne5.mpr w5), isThing_eq M1.1, bd_some]
        rw [if_pos w5] at H; exact H
      · rw [if_neg (fun z => w5 (ne5.mp z)), if_neg a0, if_neg (show ¬ 4 < nI w from nI_nlt (a := 4) (by omega) (by omega))]
        rw [if_neg w5] at H
        by_cases b0 : b = 0
        · rw [if_pos b0]; rw [if_pos b0] at H; exact H
        · rw [if_neg b0]; rw [if_neg b0] at H; exact H
  by_cases c0 : c < 0
  · refine ⟨-1, ?_, ?_⟩
    · unfold f_X10_tried; rw [if_neg a0, if_neg a5, if_pos c0]; exact qc_some cc
    · unfold f_X11_tried
      refine qm_th hV hX M fun ν1 K M => suM ν1 M _ ?_
      unfold f_X11_tried_j49
      rw [if_pos c0]
      split <;> exact qm_some K
  by_cases c60 : c ≤ 60
  rotate_left
  · refine ⟨-1, ?_, ?_⟩
    · unfold f_X10_tried; rw [if_neg a0, if_neg a5, if_neg c0, if_neg c60]; exact qc_some cc
    · unfold f_X11_tried
      refine qm_th hV hX M fun ν1 K M => suM ν1 M _ ?_
      unfold f_X11_tried_j49
      rw [if_neg c0, if_neg c60]
      split <;> exact qm_some K
  obtain ⟨n, hn, rfl⟩ := nI_of2 (x := c) (M := 60) (n := 60) (by decide) c0 c60
  have suC : ∀ Q : Int32 → fMem → Prop, Ok (f_X10_tried_j64 0 (nI w) b (nI n) su μ) Q → Ok (f_X10_tried 0 (nI w) b (nI n) μ) Q := by
    intro Q H
    rw [← hsu] at H
    unfold f_X10_tried
    rw [if_neg a0, if_neg a5, if_neg c0, if_pos c60]
    by_cases w2 : w = 2
    · rw [if_pos (ne2.mpr w2)]
      refine rc_h C ?_
      rw [has3 C.2.2.2.1, bd_some]
      rw [if_pos w2] at H; exact H
    · rw [if_neg (fun z => w2 (ne2.mp z))]
      rw [if_neg w2] at H
      by_cases w5 : w = 5
      · rw [if_pos (ne5.mpr w5)]
        refine rc_h C ?_
        rw [has2 C.2.2.2.1, bd_some]
        rw [if_pos w5] at H; exact H
      · rw [if_neg (fun z => w5 (ne5.mp z))]
        rw [if_neg w5] at H
        by_cases b0 : b = 0
        · rw [if_pos b0]; rw [if_pos b0] at H; exact H
        · rw [if_neg b0]; rw [if_neg b0] at H; exact H
  have sb : su = 0 ∨ su = 1 := by
    rw [← hsu]
    split
    · split
      · exact Or.inr rfl
      · exact Or.inl rfl
    · split
      · split
        · exact Or.inr rfl
        · exact Or.inl rfl
      · split
        · exact Or.inr rfl
        · exact Or.inl rfl
  rcases sb with rfl | rfl
  · refine ⟨-1, suC _ ?_, ?_⟩
    · unfold f_X10_tried_j64
      rw [if_pos rfl]; exact qc_some cc
    · unfold f_X11_tried
      refine qm_th hV hX M fun ν1 K M => suM ν1 M _ ?_
      unfold f_X11_tried_j49
      rw [if_pos rfl]; exact qm_some K
  · have h5 : w = 5 → ∃ t, t < V.1 2 ∧ b = nI t := by
      intro w5
      rw [if_neg (by omega), if_pos w5] at hsu
      by_cases q : hs (V.1 2) b
      · obtain ⟨t, ht, e⟩ := hs_ex q (by omega)
        exact ⟨t, ht, e⟩
      · rw [if_neg q] at hsu; exact absurd hsu (by decide)
    refine ⟨triS V S w b n, suC _ (triedC hV hS C hw hn h5), ?_⟩
    unfold f_X11_tried
    refine qm_th hV hX M fun ν1 K M => suM ν1 M _ ?_
    refine (triedM hV hS hX M hw hn h5).mono ?_
    rintro r ν2 ⟨rfl, K2⟩
    exact ⟨rfl, K.trans K2⟩
end Sim11
