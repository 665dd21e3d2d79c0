/-! calls that change: images, hanging, ropes, dust, what is undone -/
section Sim7
theorem SR.put {V : HV} {S : SV} (H : SR V S) {i j : Nat} {v : Int32} (h0 : i = 0 → ∃ r, r < V.1 0 ∧ v = nI r) (h : i = 0 ∨ i = 3 ∨ i = 5) : SR V (up S i j v) := by
  refine ⟨fun t ht => ?_, ?_, fun k a b => ⟨?_, ?_⟩, fun k a b => ?_⟩
  · by_cases q : 0 = i ∧ t = j
    · unfold up; rw [if_pos q]; exact h0 q.1.symm
    · rw [up_ne q]; exact H.1 t ht
  · rw [up_ne (by omega)]; exact H.2.1
  · rw [up_ne (by omega)]; exact (H.2.2.1 k a b).1
  · rw [up_ne (by omega)]; exact (H.2.2.1 k a b).2
  · rw [up_ne (by omega)]; exact H.2.2.2 k a b
theorem SR.undo {V : HV} {S : SV} (H : SR V S) {p : SK} (hp : SKw V p) : SR V (undo1 S p) := by
  unfold undo1
  rcases hp with ⟨e, h1, h2⟩ | ⟨e, h1, h2⟩ | ⟨e, h1⟩
  · rw [if_pos e]; exact H.put (fun _ => h2) (Or.inl rfl)
  · rw [if_neg (by omega), if_pos e]; exact H.put (fun z => by omega) (by omega)
  · rw [if_neg (by omega), if_neg (by omega)]; exact H.put (fun z => by omega) (by omega)
theorem CS.put5 {μ : fMem} {s : Nat} {V : HV} {S : SV} (H : CS μ s V S) (v : Int32) : CS (sI μ s 5 v) s V (up S 5 0 v) := by
  obtain ⟨h1, h2, h3, h4, h5, h6, h7, h8⟩ := H
  refine ⟨fun k hk => ?_, fun k hk => ?_, fun k hk => ?_, fun k hk => ?_, fun k hk => ?_, ?_, ?_, fun k a b => ?_⟩ <;> rw [sI_i]
  · rw [if_neg (by omega), up_ne (by omega)]; exact h1 k hk
  · rw [if_neg (by omega), up_ne (by omega)]; exact h2 k hk
  · rw [if_neg (by omega), up_ne (by omega)]; exact h3 k hk
  · rw [if_neg (by omega), up_ne (by omega)]; exact h4 k hk
  · rw [if_neg (by omega), up_ne (by omega)]; exact h5 k hk
  · rw [if_pos ⟨rfl, rfl⟩, up_at]
  · rw [if_neg (by omega), up_ne (by omega)]; exact h7
  · rw [if_neg (by omega)]; exact h8 k a b
theorem MSt.put5 {ν : fMem} {x : Nat} {V : HV} {S : SV} (H : MSt ν x V S 0 (-1)) (v : Int32) : MSt (sI ν 205 x v) x V (up S 5 0 v) 0 (-1) := by
  obtain ⟨a1, a2, a3, a4, a5, a6, a7⟩ := H
  have f : ∀ c k, ¬ c = 205 → (sI ν 205 x v).1 c k = ν.1 c k := fun c k hc => by rw [sI_i, if_neg (by omega)]
  refine ⟨fun k hk => ?_, fun k hk => ?_, fun k hk => ?_, fun k hk => ?_, fun k hk => ?_, ?_, ?_⟩
  · rw [f _ _ (by omega), up_ne (by omega)]; exact a1 k hk
  · rw [f _ _ (by omega), up_ne (by omega)]; exact a2 k hk
  · rw [f _ _ (by omega), up_ne (by omega)]; exact a3 k hk
  · rw [f _ _ (by omega), up_ne (by omega)]; exact a4 k hk
  · rw [f _ _ (by omega), up_ne (by omega)]; exact a5 k hk
  · rw [if_neg (by decide), sI_i, if_pos ⟨rfl, rfl⟩, up_at]
  · rw [f _ _ (by omega), up_ne (by omega)]; exact a7
/-- a change of the stand, of strokes -/
theorem RC.toS {μ μ' : fMem} {V : HV} {S S' : SV} {h : Nat} {XI : Option SV} {XT XT' : List SK} {XR : (Nat × (Nat → Nat → Int32) × Int32) × (Nat × (Nat → Int32)) × (Int32 × Int32)} (C : RC μ V S (XI, XT, XR) h) (kk : ∀ k, k < 66 ∨ (72 ≤ k ∧ k < 78) ∨ k = 122 ∨ (123 ≤ k ∧ k ≤ 128) → μ'.1 k = μ.1 k) (K2 : μ'.2.1 121 = μ.2.1 121) (K3 : ∀ k j, k < 66 → μ'.2.2 k j = μ.2.2 k j) (cS : CS μ' 66 V S') (cT : μ'.1 130 0 = nI XT'.length ∧ CTr μ' XT') : RC μ' V S' (XI, XT', XR) h :=
  C.to (fun k hk => kk k (by omega)) K2 K3 cS (CI.ofs (by rw [kk 0 (by omega)]) (fun k a b => kk k (by omega)) C.2.2.2.2.2.2.1) cT (CN.of (fun k a b => kk k (by omega)) C.2.2.2.2.2.2.2.2.1) ⟨by rw [kk 0 (by omega)]; exact C.2.2.2.2.2.2.2.2.2.1.1, fun j hj => by rw [kk 1 (by omega)]; exact C.2.2.2.2.2.2.2.2.2.1.2 j hj⟩ rfl
theorem RM.toS {ν ν' : fMem} {V : HV} {S S' : SV} {XI : Option SV} {XT XT' : List SK} {XR : (Nat × (Nat → Nat → Int32) × Int32) × (Nat × (Nat → Int32)) × (Int32 × Int32)} (hV : HW V) (M : RM ν V S (XI, XT, XR)) (kk : ∀ c j, ¬ Px 0 c j → ¬ (∃ y, 3 ≤ y ∧ y < 23 ∧ Px y c j) → ¬ (c = 181 ∧ (j = 46 ∨ j = 36)) → ν'.1 c j = ν.1 c j) (mS : MSt ν' 0 V S' 0 (-1)) (mU : ν'.1 181 46 = nI XT'.length ∧ MUr ν' V S' XT') : RM ν' V S' (XI, XT', XR) := by
  have v8 : V.1 2 ≤ 8 := hV.2.2.1
  have kl : ∀ c j, c < 203 ∨ 211 ≤ c → ¬ (c = 181 ∧ (j = 46 ∨ j = 36)) → ν'.1 c j = ν.1 c j := fun c j h1 h2 => kk c j (by unfold Px; omega) (by rintro ⟨y, -, -, z⟩; unfold Px at z; omega) h2
  exact M.to hV (fun c j a b => kl c j (by omega) (by omega)) (fun j hj => kl _ _ (by omega) (by omega)) mS (MI.of v8 (kl _ _ (by omega) (by omega)) (fun c j q => kk c j (by unfold Px at q ⊢; omega) (by rintro ⟨y, h1, h2, z⟩; unfold Px at q z; omega) (by unfold Px at q; omega)) M.2.2.2.1) mU (MN.of (fun j a b => kl _ _ (by omega) (by omega)) (fun c j a b => kl _ _ (by omega) (by omega)) M.2.2.2.2.2.1) ⟨by rw [kl _ _ (by omega) (by omega)]; exact M.2.2.2.2.2.2.1.1, fun j hj => by rw [kl _ _ (by omega) (by omega)]; exact M.2.2.2.2.2.2.1.2 j hj⟩ rfl
theorem sim_back : Sim Rel (f_X10_back 0) (f_X11_back 181) := by
  refine simX fun μ ν V S X h hV hS hX C M => ?_
  obtain ⟨XI, XT, XN, XF, XR⟩ := X
  have h8 : V.1 2 ≤ 8 := hV.2.2.1
  have M0 := rm_th hV hX M
  cases XI with
  | none =>
    refine ⟨-1, S, _, hS, hX, ?_, ?_⟩
    · unfold f_X10_back
      rw [show μ.1 0 6 = 0 from C.2.2.2.2.2.2.1, if_pos rfl]; exact rcq C
    · unfold f_X11_back
      show Ok _ _
      rw [Ok_vl, show (sI ν 181 0 0).1 181 45 = 0 from M0.2.2.2.1, if_pos rfl]; exact rmq M0
  | some I =>
    have hI := hX.1 I rfl
    have cI : μ.1 0 6 = 1 ∧ CS μ 72 V I := C.2.2.2.2.2.2.1
    have mI : (sI ν 181 0 0).1 181 45 = 1 ∧ MSt (sI ν 181 0 0) 2 V I 0 (-1) := M0.2.2.2.1
    refine ⟨I 6 0, I, (some I, [], XN, XF, XR), hI, ⟨hX.1, ⟨Nat.zero_le _, fun p hp => absurd hp List.not_mem_nil⟩, hX.2.2⟩, ?_, ?_⟩
    · unfold f_X10_back f_X8_clear
      rw [cI.1, if_neg (by decide)]
      simp only [Nat.reduceAdd]
      refine Ok_bd.mpr ((copy_spec h8 cI.2 (s' := 66) (by omega)).mono ?_)
      rintro - μ1 ⟨c1, K⟩
      have kk : ∀ k, k < 66 ∨ (72 ≤ k ∧ ¬ k = 130) → (sI μ1 130 0 0).1 k = μ.1 k := fun k hk => by
        funext j
        rw [sI_i, if_neg (by omega)]
        exact K.i (by simp only [sS, List.mem_cons, List.not_mem_nil, or_false]; omega) j
      have c2 : CS (sI μ1 130 0 0) 66 V I := c1.of fun k a b => by funext j; rw [sI_i, if_neg (by omega)]
      show Ok _ _
      rw [Ok_bd, Ok_vl, Ok_some, c2.2.2.2.2.2.2.1]
      exact Ok_some.mpr ⟨rfl, C.toS (fun k hk => kk k (by omega)) (K.2.2 121 (List.not_mem_nil)) (fun k j _ => K.r k j) c2 ⟨by rw [sI_i, if_pos ⟨rfl, rfl⟩]; rfl, trivial⟩⟩
    · unfold f_X11_back
      show Ok _ _
      rw [Ok_vl, mI.1, if_neg (by decide)]
      generalize sI ν 181 0 0 = ν0 at M0 mI ⊢
      rw [Ok_bd]
      refine (copies_spec (x := 2) (y := 0) (by omega) (by omega) (by omega)).mono ?_
      rintro - ν1 ⟨K, cp⟩
      have m2 : MSt (sI ν1 181 46 0) 0 V I 0 (-1) := (mI.2.cpd h8 cp).of h8 (fun c a b j hj => by rw [sI_i, if_neg (by omega)]) (fun c a b j hj => by rw [sI_i, if_neg (by omega)]) (by rw [sI_i, if_neg (by omega)]) (by rw [sI_i, if_neg (by omega)])
      simp only [Nat.reduceAdd]
      rw [Ok_vl, m2.2.2.2.2.2.2]
      exact Ok_some.mpr ⟨rfl, M0.toS hV (fun c j h1 h2 h3 => by rw [sI_i, if_neg (by omega)]; exact K.2.1 c j h1) m2 ⟨by rw [sI_i, if_pos ⟨rfl, rfl⟩]; rfl, trivial⟩⟩
theorem CTr.ofj {μ μ' : fMem} : ∀ {L : List SK}, (∀ k j, 131 ≤ k → k ≤ 133 → j < L.length → μ'.1 k j = μ.1 k j) → CTr μ L → CTr μ' L
  | [], _, _ => trivial
  | p :: L, e, h => by
    unfold CTr at h ⊢
    rw [e 131 _ (by omega) (by omega) (Nat.lt_succ_self _), e 132 _ (by omega) (by omega) (Nat.lt_succ_self _), e 133 _ (by omega) (by omega) (Nat.lt_succ_self _)]
    exact ⟨h.1, h.2.1, h.2.2.1, CTr.ofj (fun k j a b c => e k j a b (Nat.lt_succ_of_lt c)) h.2.2.2⟩
theorem takeBack_spec {μ : fMem} {V : HV} {S : SV} {p : SK} {L : List SK} (hV : HW V) (hl : L.length + 1 ≤ 20) (hp : SKw V p) (cS : CS μ 66 V S) (c0 : μ.1 130 0 = nI (L.length + 1)) (cT : CTr μ (p :: L)) : Ok (f_X8_takeBack 130 66 μ) (fun _ μ' => CS μ' 66 V (undo1 S p) ∧ Kp [130, 66, 67, 70] [] μ μ' ∧ μ'.1 130 0 = nI L.length ∧ CTr μ' L) := by
  have h6 : V.1 0 ≤ 6 := hV.1
  have h8 : V.1 2 ≤ 8 := hV.2.2.1
  obtain ⟨t1, t2, t3, t4⟩ := cT
  unfold f_X8_takeBack
  have ix : ixo (nI L.length) 20 := ixN (by omega) (by omega)
  rw [c0, if_neg (nI_nle (by omega) (by omega)), if_pos (show nI (L.length + 1) ≤ 20 from nI_le (b := 20) (by omega) (by omega)), Ok_vl, show nI (L.length + 1) - 1 = nI L.length from nI_pred _]
  have z0 : (sI μ 130 0 (nI L.length)).1 130 0 = nI L.length := by rw [sI_i, if_pos ⟨rfl, rfl⟩]
  have zz : ∀ k j, ¬ k = 130 → (sI μ 130 0 (nI L.length)).1 k j = μ.1 k j := fun k j hk => by rw [sI_i, if_neg (by omega)]
  have K0 : Kp [130, 66, 67, 70] [] μ (sI μ 130 0 (nI L.length)) := Kp.rfl'.sI (by simp)
  have cS0 : CS (sI μ 130 0 (nI L.length)) 66 V S := cS.of fun k a b => by funext j; exact zz k j (by omega)
  generalize sI μ 130 0 (nI L.length) = μ0 at z0 zz K0 cS0 ⊢
  have fin : ∀ μ', Kp [130, 66, 67, 70] [] μ μ' → CS μ' 66 V (undo1 S p) → (∀ k j, 130 ≤ k → k ≤ 133 → μ'.1 k j = μ0.1 k j) → (CS μ' 66 V (undo1 S p) ∧ Kp [130, 66, 67, 70] [] μ μ' ∧ μ'.1 130 0 = nI L.length ∧ CTr μ' L) := fun μ' K c e => ⟨c, K, (e 130 0 (by omega) (by omega)).trans z0, t4.ofj fun k j a b _ => (e k j (by omega) b).trans (zz k j (by omega))⟩
  simp only [Nat.reduceAdd]
  rw [z0]
  simp only [gd_t ix]
  rw [nI_clamp (by omega), Ok_vl, Ok_vl, zz _ _ (by omega), zz _ _ (by omega), zz _ _ (by omega), t1, t2, t3]
  rcases hp with ⟨e, h1, ⟨r, hr, er⟩⟩ | ⟨e, h1, hb⟩ | ⟨e, h1⟩
  · rw [e, if_pos (show nI 0 = 0 from rfl), if_neg (nI_pos (by omega)), if_neg (show ¬ 8 ≤ nI p.2.1 from nI_ge (b := 8) (by omega) (by omega)), gd_t (ixN (by omega) (by omega)), nI_clamp (by omega), Ok_vl]
    unfold f_X8_takeBack_j76 f_X8_takeBack_j103
    simp only [Nat.reduceAdd]
    have y0 : ∀ k j, ¬ k = 67 → (sI μ0 67 p.2.1 p.2.2).1 k j = μ0.1 k j := fun k j hk => by rw [sI_i, if_neg (by omega)]
    rw [y0 130 0 (by omega), z0]
    simp only [gd_t ix]
    rw [nI_clamp (by omega), y0 131 _ (by omega), zz _ _ (by omega), t1, e, if_neg (by decide), if_neg (by decide), Ok_some]
    refine fin _ (K0.sI (by simp)) ?_ (fun k j a b => y0 k j (by omega))
    unfold undo1
    rw [if_pos e]
    exact cS0.put (i := 0) (by omega) (fun _ => h1) p.2.2
  · rw [e, if_neg (show ¬ nI 1 = 0 by decide)]
    unfold f_X8_takeBack_j76 f_X8_takeBack_j100 f_X7_setRoped f_X8_takeBack_j103
    simp only [Nat.reduceAdd]
    rw [z0]
    simp only [gd_t ix]
    rw [nI_clamp (by omega), zz _ _ (by omega), t1, e, if_pos (show nI 1 = 1 from rfl)]
    have y0 : ∀ v k j, ¬ k = 66 → (sI μ0 66 5 v).1 k j = μ0.1 k j := fun v k j hk => by rw [sI_i, if_neg (by omega)]
    have go : ∀ v, v = rop (S 5 0) p.2.1 p.2.2 → (CS (sI μ0 66 5 v) 66 V (undo1 S p) ∧ Kp [130, 66, 67, 70] [] μ (sI μ0 66 5 v) ∧ (sI μ0 66 5 v).1 130 0 = nI L.length ∧ CTr (sI μ0 66 5 v) L) := by
      rintro v rfl
      refine fin _ (K0.sI (by simp)) ?_ (fun k j a b => y0 _ k j (by omega))
      unfold undo1
      rw [if_neg (by omega), if_pos e]
      exact cS0.put5 _
    by_cases q : p.2.2 = 0
    · rw [if_pos q, if_pos trivial, Ok_bd, Ok_vl, Ok_some]
      rw [y0 _ 130 0 (by omega), z0, gd_t ix, nI_clamp (by omega), y0 _ 131 _ (by omega), zz _ _ (by omega), t1, e, if_neg (by decide), Ok_some]
      refine go _ ?_
      unfold rop
      rw [if_pos q, cS0.2.2.2.2.2.1]
    · rw [if_neg q, if_neg (by decide), Ok_bd, Ok_vl, Ok_some]
      rw [y0 _ 130 0 (by omega), z0, gd_t ix, nI_clamp (by omega), y0 _ 131 _ (by omega), zz _ _ (by omega), t1, e, if_neg (by decide), Ok_some]
      refine go _ ?_
      unfold rop
      rw [if_neg q, cS0.2.2.2.2.2.1]
  · rw [e, if_neg (show ¬ nI 2 = 0 by decide)]
    unfold f_X8_takeBack_j76 f_X8_takeBack_j103
    simp only [Nat.reduceAdd]
    rw [z0]
    simp only [gd_t ix]
    rw [nI_clamp (by omega), zz _ _ (by omega), t1, e, if_neg (show ¬ nI 2 = 1 by decide), if_pos (show nI 2 = 2 from rfl), if_neg (nI_pos (by omega)), if_neg (show ¬ 6 ≤ nI p.2.1 from nI_ge (b := 6) (by omega) (by omega)), gd_t (ixN (by omega) (by omega)), nI_clamp (by omega), Ok_vl, Ok_some]
    refine fin _ (K0.sI (by simp)) ?_ (fun k j a b => by rw [sI_i, if_neg (by omega)])
    unfold undo1
    rw [if_neg (by omega), if_neg (by omega)]
    exact cS0.put (i := 3) (by omega) (fun z => by omega) p.2.2
theorem sim_undo : Sim Rel (f_X10_undo 0) (f_X11_undo 181) := by
  refine simX fun μ ν V S X h hV hS hX C M => ?_
  obtain ⟨XI, XT, XR⟩ := X
  have h8 : V.1 2 ≤ 8 := hV.2.2.1
  have M0 := rm_th hV hX M
  have c8 := C.2.2.2.2.2.2.2.1
  have m5 := M0.2.2.2.2.1
  dsimp only at c8 m5
  cases XT with
  | nil =>
    refine ⟨-1, S, _, hS, hX, ?_, ?_⟩
    · unfold f_X10_undo
      simp only [Nat.reduceAdd]
      rw [c8.1, if_pos (show nI ([] : List SK).length = 0 from rfl)]; exact rcq C
    · unfold f_X11_undo
      show Ok _ _
      rw [Ok_vl, m5.1, if_pos (show nI ([] : List SK).length = 0 from rfl)]; exact rmq M0
  | cons p L =>
    have hl : L.length + 1 ≤ 20 := hX.2.1.1
    have hp : SKw V p := hX.2.1.2 p (List.mem_cons_self ..)
    have c0 : μ.1 130 0 = nI (L.length + 1) := c8.1
    refine ⟨nI L.length, undo1 S p, (XI, L, XR), hS.undo hp, ⟨hX.1, ⟨by show L.length ≤ 20; omega, fun q hq => hX.2.1.2 q (List.mem_cons_of_mem _ hq)⟩, hX.2.2⟩, ?_, ?_⟩
    · unfold f_X10_undo
      simp only [Nat.reduceAdd]
      rw [c0, if_neg (nI_ne0 (by omega) (by omega))]
      refine Ok_bd.mpr ((takeBack_spec hV hl hp C.2.2.2.2.1 c0 c8.2).mono ?_)
      rintro - μ1 ⟨c1, K, z0, cT⟩
      rw [z0]
      exact Ok_some.mpr ⟨rfl, C.toS (fun k hk => K.2.1 k (by simp only [List.mem_cons, List.not_mem_nil, or_false]; omega)) (K.2.2 121 (List.not_mem_nil)) (fun k j _ => K.r k j) c1 ⟨z0, cT⟩⟩
    · unfold f_X11_undo
      show Ok _ _
      rw [Ok_vl]
      generalize sI ν 181 0 0 = ν0 at M0 m5 ⊢
      have m0 : ν0.1 181 46 = nI (L.length + 1) := m5.1
      rw [m0, if_neg (nI_ne0 (by omega) (by omega)), Ok_vl, show nI (L.length + 1) - 1 = nI L.length from nI_pred _]
      have e1 : (sI ν0 181 46 (nI L.length)).1 181 46 = nI L.length := by rw [sI_i, if_pos ⟨rfl, rfl⟩]
      rw [e1, show (3 : Int32) + nI L.length = nI (3 + L.length) from nI_add 3 _, Ok_bd]
      refine (copies_spec (x := 3 + L.length) (y := 0) (by omega) (by omega) (by omega)).mono ?_
      rintro - ν1 ⟨K, cp⟩
      have e2 : ν1.1 181 46 = nI L.length := by rw [K.2.1 181 46 (by unfold Px; omega)]; exact e1
      have zz : ∀ c j, ¬ c = 181 → (sI ν0 181 46 (nI L.length)).1 c j = ν0.1 c j := fun c j hc => by rw [sI_i, if_neg (by omega)]
      have ms : MSt (sI ν0 181 46 (nI L.length)) (3 + L.length) V (undo1 S p) 0 (-1) := m5.2.1.of h8 (fun c a b j hj => zz _ _ (by omega)) (fun c a b j hj => zz _ _ (by omega)) (zz _ _ (by omega)) (zz _ _ (by omega))
      rw [e2]
      refine Ok_some.mpr ⟨rfl, M0.toS hV (fun c j h1 h2 h3 => by rw [K.2.1 c j h1, sI_i, if_neg (by omega)]) (ms.cpd h8 cp) ⟨e2, MUr.of h8 (fun c y j a b q => ?_) (by omega) m5.2.2⟩⟩
      rw [K.2.1 c j (by unfold Px at q ⊢; omega)]
      exact zz c j (by unfold Px at q; omega)
def psh (p : SK) (L : List SK) : List SK := p :: (if L.length = 20 then L.dropLast else L)
theorem CTr_drop {μ μ' : fMem} (e : ∀ k j, 131 ≤ k → k ≤ 133 → j < 19 → μ'.1 k j = μ.1 k (j + 1)) : ∀ {L : List SK}, L.length ≤ 20 → CTr μ L → CTr μ' L.dropLast
  | [], _, _ => trivial
  | [p], _, _ => trivial
  | p :: q :: L, hl, h => by
    simp only [List.length_cons] at hl
    have ih := CTr_drop e (L := q :: L) (by simp only [List.length_cons]; omega) h.2.2.2
    rw [List.dropLast_cons_of_ne_nil (List.cons_ne_nil _ _)]
    unfold CTr at h ⊢
    have len : (q :: L).dropLast.length = L.length := by simp
    rw [len, e 131 _ (by omega) (by omega) (by omega), e 132 _ (by omega) (by omega) (by omega), e 133 _ (by omega) (by omega) (by omega)]
    exact ⟨h.1, h.2.1, h.2.2.1, ih⟩
theorem MUr_drop {ν ν' : fMem} {V : HV} (h8 : V.1 2 ≤ 8) (e : ∀ j, j < 19 → Cpd ν ν' (3 + j) (4 + j)) : ∀ {L : List SK} {S : SV}, L.length ≤ 20 → MUr ν V S L → MUr ν' V S L.dropLast
  | [], _, _, _ => trivial
  | [p], _, _, _ => trivial
  | p :: q :: L, S, hl, h => by
    simp only [List.length_cons] at hl
    have ih := MUr_drop h8 e (L := q :: L) (S := undo1 S p) (by simp only [List.length_cons]; omega) h.2
    rw [List.dropLast_cons_of_ne_nil (List.cons_ne_nil _ _)]
    unfold MUr at h ⊢
    have len : (q :: L).dropLast.length = L.length := by simp
    rw [len]
    have h1 : MSt ν (4 + L.length) V (undo1 S p) 0 (-1) := by
      have := h.1
      rw [List.length_cons, show 3 + (L.length + 1) = 4 + L.length by omega] at this
      exact this
    exact ⟨h1.cpd h8 (e L.length (by omega)), ih⟩
theorem cpy1_at {μ : fMem} {k0 k1 j n : Nat} (h : j < n) (hn : n < 2 ^ 31) : (cpy μ k0 1 k1 0 (nI n)).1 k1 j = μ.1 k0 (j + 1) := by
  unfold cpy
  rw [sRow_at]
  unfold va_cpy
  rw [nI_clamp hn, show (0 : Int32).toNatClampNeg = 0 by decide, show (1 : Int32).toNatClampNeg = 1 by decide, if_pos ⟨by omega, by omega⟩, show 1 + (j - 0) = j + 1 by omega]
abbrev sT : List Nat := [130, 131, 132, 133]
theorem dropFirst_spec (μ : fMem) : Ok (f_X8_dropFirst 130 μ) (fun _ μ' => Kp sT [] μ μ' ∧ μ'.1 130 0 = nI 19 ∧ ∀ k j, 131 ≤ k → k ≤ 133 → j < 19 → μ'.1 k j = μ.1 k (j + 1)) := by
  unfold f_X8_dropFirst
  simp only [Nat.reduceAdd]
  rw [Ok_vl]
  have z0 : (sI μ 130 0 19).1 130 0 = 19 := by rw [sI_i, if_pos ⟨rfl, rfl⟩]
  have zz : ∀ k j, ¬ k = 130 → (sI μ 130 0 19).1 k j = μ.1 k j := fun k j hk => by rw [sI_i, if_neg (by omega)]
  have K0 : Kp sT [] μ (sI μ 130 0 19) := Kp.rfl'.sI (by simp)
  generalize sI μ 130 0 19 = μ0 at z0 zz K0 ⊢
  have cp : cpo (1 : Int32) 0 19 20 20 := by decide
  rw [z0, gd_t cp, Ok_vl]
  have y1 : (cpy μ0 131 1 131 0 19).1 130 0 = 19 := by rw [cpy_ne (by omega)]; exact z0
  rw [y1, gd_t cp, Ok_vl]
  have y2 : (cpy (cpy μ0 131 1 131 0 19) 132 1 132 0 19).1 130 0 = 19 := by rw [cpy_ne (by omega)]; exact y1
  rw [y2, gd_t cp, Ok_vl, Ok_some]
  refine ⟨((K0.cpy (by simp)).cpy (by simp)).cpy (by simp), by rw [cpy_ne (by omega)]; exact y2, fun k j a b hj => ?_⟩
  have ck : k = 131 ∨ k = 132 ∨ k = 133 := by omega
  rcases ck with rfl | rfl | rfl
  · rw [cpy_ne (by omega), cpy_ne (by omega)]
    exact (cpy1_at (n := 19) hj (by decide)).trans (zz _ _ (by omega))
  · rw [cpy_ne (by omega)]
    refine (cpy1_at (n := 19) hj (by decide)).trans ?_
    rw [cpy_ne (by omega)]; exact zz _ _ (by omega)
  · refine (cpy1_at (n := 19) hj (by decide)).trans ?_
    rw [cpy_ne (by omega), cpy_ne (by omega)]; exact zz _ _ (by omega)
theorem add13_spec {μ : fMem} {L : List SK} {p : SK} (hl : L.length < 20) (c0 : μ.1 130 0 = nI L.length) (cT : CTr μ L) : Ok (f_X8_add_j13 130 (nI p.1) (nI p.2.1) p.2.2 μ) (fun _ μ' => Kp sT [] μ μ' ∧ μ'.1 130 0 = nI (L.length + 1) ∧ CTr μ' (p :: L)) := by
  unfold f_X8_add_j13
  have ix : ixo (nI L.length) 20 := ixN hl (by omega)
  have cl : (nI L.length).toNatClampNeg = L.length := nI_clamp (by omega)
  simp only [Nat.reduceAdd, vl, c0, sI_i, Nat.reduceEqDiff, false_and, if_false, gd_t ix, cl]
  rw [if_neg (nI_pos (by omega)), if_pos (show nI L.length < 20 from nI_lt (b := 20) hl (by omega)), Ok_some, nI_1]
  refine ⟨(((Kp.rfl'.sI (by simp)).sI (by simp)).sI (by simp)).sI (by simp), by simp [sI_i], ?_, ?_, ?_, cT.ofj fun k j a b c => ?_⟩
  · simp [sI_i]
  · simp [sI_i]
  · simp [sI_i]
  · have hj : ¬ j = L.length := by omega
    simp only [sI_i, hj, and_false, if_false]
    rw [if_neg (by omega)]
theorem add8_spec {μ : fMem} {L : List SK} {p : SK} (hl : L.length ≤ 20) (c0 : μ.1 130 0 = nI L.length) (cT : CTr μ L) : Ok (f_X8_add 130 (nI p.1) (nI p.2.1) p.2.2 μ) (fun _ μ' => Kp sT [] μ μ' ∧ μ'.1 130 0 = nI (psh p L).length ∧ CTr μ' (psh p L)) := by
  unfold f_X8_add psh
  rw [c0]
  by_cases q : L.length = 20
  · rw [if_neg (show ¬ nI L.length < 20 from nI_nlt (b := 20) (by omega) (by omega)), if_pos q, Ok_bd]
    refine (dropFirst_spec μ).mono ?_
    rintro - μ1 ⟨K1, z1, e1⟩
    have len : L.dropLast.length = 19 := by simp; omega
    refine (add13_spec (L := L.dropLast) (p := p) (by omega) (by rw [len]; exact z1) (CTr_drop e1 hl cT)).mono ?_
    rintro - μ2 ⟨K2, z2, c2⟩
    exact ⟨K1.trans K2, z2, c2⟩
  · rw [if_pos (show nI L.length < 20 from nI_lt (b := 20) (by omega) (by omega)), if_neg q]
    exact add13_spec (by omega) c0 cT
def AU (k j : Nat) : Prop := (k = 181 ∧ j = 46) ∨ ∃ y, 3 ≤ y ∧ y < 23 ∧ Px y k j
theorem keep45 {ν : fMem} {V : HV} {S : SV} {L : List SK} (h8 : V.1 2 ≤ 8) (hl : L.length < 20) (m0 : ν.1 181 46 = nI L.length) (mS : MSt ν 0 V S 0 (-1)) (mU : MUr ν V S L) : Ok (f_X11_keepNow_j45 181 ν) (fun _ ν' => Kx AU BN ν ν' ∧ ν'.1 181 46 = nI (L.length + 1) ∧ MSt ν' (3 + L.length) V S 0 (-1) ∧ MUr ν' V S L) := by
  unfold f_X11_keepNow_j45
  rw [m0, show (3 : Int32) + nI L.length = nI (3 + L.length) from nI_add 3 _, Ok_bd]
  refine (copies_spec (x := 0) (y := 3 + L.length) (by omega) (by omega) (by omega)).mono ?_
  rintro - ν1 ⟨K, cp⟩
  have e1 : ν1.1 181 46 = nI L.length := by rw [K.2.1 181 46 (by unfold Px; omega)]; exact m0
  rw [e1, nI_1, Ok_vl, Ok_some]
  have zz : ∀ c j, ¬ c = 181 → (sI ν1 181 46 (nI (L.length + 1))).1 c j = ν1.1 c j := fun c j hc => by rw [sI_i, if_neg (by omega)]
  refine ⟨(K.wide (fun k j z => Or.inr ⟨3 + L.length, by omega, by omega, z⟩) (fun _ _ z => z)).sI (Or.inl ⟨rfl, rfl⟩), by rw [sI_i, if_pos ⟨rfl, rfl⟩], (mS.cpd h8 cp).of h8 (fun c a b j hj => zz _ _ (by omega)) (fun c a b j hj => zz _ _ (by omega)) (zz _ _ (by omega)) (zz _ _ (by omega)), ?_⟩
  have low : ∀ {L' : List SK} {S : SV}, L'.length ≤ L.length → MUr ν V S L' → MUr (sI ν1 181 46 (nI (L.length + 1))) V S L' := by
    intro L'
    induction L' with
    | nil => intro S _ _; trivial
    | cons p L' ih =>
      intro S hl' h
      simp only [List.length_cons] at hl'
      have ke : ∀ c j, Px (3 + L'.length) c j → (sI ν1 181 46 (nI (L.length + 1))).1 c j = ν.1 c j := fun c j q => by
        rw [zz c j (by unfold Px at q; omega)]
        exact K.2.1 c j (by unfold Px at q ⊢; omega)
      exact ⟨h.1.of h8 (fun c a b j hj => ke _ _ (by unfold Px; omega)) (fun c a b j hj => ke _ _ (by unfold Px; omega)) (ke _ _ (by unfold Px; omega)) (ke _ _ (by unfold Px; omega)), ih (by omega) h.2⟩
  exact low (Nat.le_refl _) mU
theorem Kx.au {ν ν1 ν2 : fMem} (a : Kx AU BN ν ν1) (b : Kx AU BN ν1 ν2) : Kx AU BN ν ν2 := a.trans b
theorem keepNow_spec {ν : fMem} {V : HV} {S : SV} {L : List SK} (h8 : V.1 2 ≤ 8) (hl : L.length ≤ 20) (m0 : ν.1 181 46 = nI L.length) (mS : MSt ν 0 V S 0 (-1)) (mU : MUr ν V S L) : Ok (f_X11_keepNow 181 ν) (fun _ ν' => Kx AU BN ν ν' ∧ ∃ L1, L1 = (if L.length = 20 then L.dropLast else L) ∧ ν'.1 181 46 = nI (L1.length + 1) ∧ MSt ν' (3 + L1.length) V S 0 (-1) ∧ MUr ν' V S L1) := by
  unfold f_X11_keepNow
  rw [m0]
  by_cases q : L.length = 20
  · rw [if_pos (show nI L.length = 20 by rw [q]; rfl), if_pos q, Ok_bd]
    refine Ok.mono (Q := fun u (s : Int32 × fMem) => Kx AU BN ν s.2 ∧ s.2.1 181 46 = nI 20 ∧ (∀ c j, Px 0 c j → s.2.1 c j = ν.1 c j) ∧ ∀ j, j < 19 → Cpd ν s.2 (3 + j) (4 + j)) (Ok_lp 19 (fun i (s : Int32 × fMem) => s.1 = nI (i + 1) ∧ Kx AU BN ν s.2 ∧ s.2.1 181 46 = nI 20 ∧ (∀ c j y, (y = 0 ∨ (3 + i ≤ y ∧ y < 23)) → Px y c j → s.2.1 c j = ν.1 c j) ∧ ∀ j, j < i → Cpd ν s.2 (3 + j) (4 + j)) (by omega) ⟨rfl, Kx.rfl', by rw [m0, q], fun _ _ _ _ _ => rfl, fun j hj => by omega⟩ ?_) ?_
    · rintro i ⟨z, ν1⟩ hi ⟨hz, K1, e1, st, cp⟩
      dsimp only at hz K1 e1 st cp ⊢
      subst hz
      unfold f_X11_keepNow_L11
      rcases Nat.lt_or_ge i 19 with c | c
      · rw [if_neg (show ¬ 20 ≤ nI (i + 1) from nI_ge (b := 20) (by omega) (by omega)), show (3 : Int32) + nI (i + 1) = nI (3 + (i + 1)) from nI_add 3 _, show nI (3 + (i + 1)) - 1 = nI (3 + i) from nI_pred (3 + i), Ok_bd]
        refine (copies_spec (x := 3 + (i + 1)) (y := 3 + i) (by omega) (by omega) (by omega)).mono ?_
        rintro - ν2 ⟨K2, cp2⟩
        rw [Ok_vl, nI_1, Ok_some]
        have px : ∀ {y y' c j : Nat}, ¬ y = y' → Px y c j → ¬ Px y' c j := fun h1 h2 h3 => by unfold Px at h2 h3; omega
        refine Or.inl ⟨rfl, c, rfl, K1.trans (K2.wide (fun k j z => Or.inr ⟨3 + i, by omega, by omega, z⟩) (fun _ _ z => z)), by rw [K2.2.1 181 46 (by unfold Px; omega)]; exact e1, fun cc j y hy hp => ?_, fun j hj => ?_⟩
        · rw [K2.2.1 cc j (px (by omega) hp)]
          exact st cc j y (by omega) hp
        · by_cases ej : j = i
          · subst ej
            have s4 : ∀ cc jj, Px (4 + j) cc jj → ν1.1 cc jj = ν.1 cc jj := fun cc jj hp => st cc jj (4 + j) (by omega) hp
            rw [show 3 + (j + 1) = 4 + j by omega] at cp2
            exact ⟨fun cc a b => (cp2.1 cc a b).trans (s4 _ _ (by unfold Px; omega)), fun cc a b jj hj => (cp2.2.1 cc a b jj hj).trans (s4 _ _ (by unfold Px; omega)), fun cc a b jj hj => (cp2.2.2 cc a b jj hj).trans (s4 _ _ (by unfold Px; omega))⟩
          · have old := cp j (by omega)
            have k2 : ∀ cc jj, Px (3 + j) cc jj → ν2.1 cc jj = ν1.1 cc jj := fun cc jj hp => K2.2.1 cc jj (px (by omega) hp)
            exact ⟨fun cc a b => (k2 _ _ (by unfold Px; omega)).trans (old.1 cc a b), fun cc a b jj hj => (k2 _ _ (by unfold Px; omega)).trans (old.2.1 cc a b jj hj), fun cc a b jj hj => (k2 _ _ (by unfold Px; omega)).trans (old.2.2 cc a b jj hj)⟩
      · have : i = 19 := by omega
        subst this
        rw [if_pos (show 20 ≤ nI (19 + 1) by decide), Ok_some]
        exact Or.inr ⟨0, rfl, K1, e1, fun c j hp => st c j 0 (Or.inl rfl) hp, cp⟩
    · rintro u ⟨z, ν1⟩ ⟨K1, e1, st, cp⟩
      dsimp only at K1 e1 st cp ⊢
      have len : L.dropLast.length = 19 := by simp; omega
      rw [e1, Ok_vl, show nI 20 - 1 = nI 19 from rfl]
      have zz : ∀ c j, ¬ c = 181 → (sI ν1 181 46 (nI 19)).1 c j = ν1.1 c j := fun c j hc => by rw [sI_i, if_neg (by omega)]
      have mu := MUr_drop h8 cp hl mU
      refine (keep45 (L := L.dropLast) (S := S) h8 (by omega) (by rw [len, sI_i, if_pos ⟨rfl, rfl⟩]) (mS.of h8 (fun c a b j hj => ?_) (fun c a b j hj => ?_) ?_ ?_) (MUr.of h8 (fun c y j a b q => zz c j (by unfold Px at q; omega)) (by omega) mu)).mono ?_
      · rw [zz _ _ (by omega)]; exact st _ _ (by unfold Px; omega)
      · rw [zz _ _ (by omega)]; exact st _ _ (by unfold Px; omega)
      · rw [zz _ _ (by omega)]; exact st _ _ (by unfold Px; omega)
      · rw [zz _ _ (by omega)]; exact st _ _ (by unfold Px; omega)
      · rintro - ν2 ⟨K2, e2, m2, u2⟩
        exact ⟨(K1.sI (Or.inl ⟨rfl, rfl⟩)).trans K2, _, rfl, e2, m2, u2⟩
  · rw [if_neg (show ¬ nI L.length = 20 from fun z => q ((nI_eq (a := L.length) (b := 20) (by omega) (by omega)).mp z)), if_neg q]
    refine (keep45 h8 (by omega) m0 mS mU).mono ?_
    rintro - ν1 ⟨K1, e1, m1, u1⟩
    exact ⟨K1, _, rfl, e1, m1, u1⟩
end Sim7
