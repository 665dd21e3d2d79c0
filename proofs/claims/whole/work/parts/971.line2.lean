/-! .. as the reference reads them -/
def RS (b : Nat → Nat) (N : Nat) (t : TQ) (K : Nat) (ν : fMem) (f : Option (Nat × Nat)) (k : Nat) : Prop := match f with
  | none => CBM ν b N ∧ k ≤ K ∧ ν.1 181 28 = 0 ∧ MT ν t k
  | some x => ¬ x.1 = 0 ∧ x.1 < 10 ∧ MF ν t x.1 x.2
abbrev AGx (k j : Nat) : Prop := k = 181 ∧ 24 ≤ j ∧ j ≤ 29
section RLine
variable {b : Nat → Nat} {N : Nat} {t : TQ} {K k : Nat} {ν : fMem}
theorem RS.ne {x : Nat × Nat} (h : RS b N t K ν (some x) k) : ¬ ν.1 181 28 = 0 := h.2.2.ne h.1 h.2.1
theorem RS.of {ν' : fMem} {f : Option (Nat × Nat)} (h : RS b N t K ν f k) {A : Nat → Nat → Prop} (K1 : Kx A BN ν ν') (hA : ∀ k j, A k j → ¬ (k = 181 ∧ 23 ≤ j ∧ j ≤ 29) ∧ ¬ k = 182) : RS b N t K ν' f k := by
  have e : ∀ k j, (k = 181 ∧ 23 ≤ j ∧ j ≤ 29) ∨ k = 182 → ν'.1 k j = ν.1 k j := fun k j h => K1.2.1 k j (fun q => by have := hA k j q; omega)
  cases f with
  | none =>
    obtain ⟨⟨h1, h2, h3⟩, h4, h5, h6⟩ := h
    exact ⟨⟨by rw [e _ _ (by omega)]; exact h1, h2, fun j hj => ⟨(h3 j hj).1, by rw [e _ _ (by omega)]; exact (h3 j hj).2⟩⟩, h4, by rw [e _ _ (by omega)]; exact h5, h6.of fun j a c => e _ _ (by omega)⟩
  | some x =>
    obtain ⟨h1, h2, h3⟩ := h
    exact ⟨h1, h2, by rw [e _ _ (by omega)]; exact h3.1, by rw [e _ _ (by omega)]; exact h3.2⟩
theorem RS.any {x : Nat × Nat} (h : RS b N t K ν (some x) k) (k' : Nat) : RS b N t K ν (some x) k' := h
theorem wrong_S (h : RS b N t K ν none k) {c : Nat} (hc : ¬ c = 0 ∧ c < 10) : ∃ ν', f_X11_wrong 181 (nI c) ν = some ((), ν') ∧ (∀ k', RS b N t K ν' (some (c, k)) k') ∧ Kx AGx BN ν ν' := by
  obtain ⟨ν', e, m, K1⟩ := wrong_eq h.2.2.1 h.2.2.2 c
  exact ⟨ν', e, fun _ => ⟨hc.1, hc.2, m⟩, K1.wide (fun k j h => by omega) (fun _ _ h => h)⟩
theorem token_S (T : Toks b N t K) (h : RS b N t K ν none k) (hk : k < K) : Ok (f_X11_token 181 ν) (fun _ ν' => RS b N t K ν' none (k + 1) ∧ Kx AGx BN ν ν') := by
  obtain ⟨h1, h2, h3, h4⟩ := h
  refine (token_n T h1 h4 hk).mono ?_
  rintro - ν1 ⟨K1, m1⟩
  exact ⟨⟨h1.kx K1, hk, by rw [K1.2.1 _ _ (by omega)]; exact h3, m1⟩, K1.wide (fun k j h => by omega) (fun _ _ h => h)⟩
theorem RS.lt (T : Toks b N t K) (h : RS b N t K ν none k) (h22 : ¬ (t k).1 = 22) : k < K := Nat.lt_of_le_of_ne h.2.1 (fun z => h22 (by rw [z]; exact T.2.2.2))
theorem goOn_S (T : Toks b N t K) {f : Option (Nat × Nat)} (h : RS b N t K ν f k) (hk : f = none → ¬ (t k).1 = 22) : Ok (f_X11_goOn 181 ν) (fun _ ν' => RS b N t K ν' f (k + 1) ∧ Kx AGx BN ν ν') := by
  unfold f_X11_goOn
  cases f with
  | none =>
    rw [if_pos h.2.2.1, Ok_bd]
    refine (token_S T h (h.lt T (hk rfl))).mono ?_
    rintro - ν1 h1
    exact Ok_some.mpr h1
  | some x =>
    rw [if_neg h.ne, Ok_some]
    exact ⟨h.any _, Kx.rfl'⟩
theorem numeral_spec (T : Toks b N t K) (h36 : (t k).1 ≤ 36) {f : Option (Nat × Nat)} (h : RS b N t K ν f k) {M : Nat} (hM : M ≤ 99999) : Ok (f_X11_numeral 181 0 (nI M) ν) (fun r ν' => RS b N t K ν' (fs f (numC (t k).1 (t k).2.2.1 M) k) (k + 1) ∧ (fs f (numC (t k).1 (t k).2.2.1 M) k = none → r = nI (t k).2.2.1 ∧ (t k).2.2.1 ≤ M) ∧ Kx AGx BN ν ν') := by
  unfold f_X11_numeral
  cases f with
  | some x =>
    rw [if_neg h.ne, Ok_some]
    exact ⟨h.any _, fun z => (by cases z), Kx.rfl'⟩
  | none =>
    have j46 : ∀ {ν' : fMem} {c : Nat}, (∀ k', RS b N t K ν' (some (c, k)) k') → Kx AGx BN ν ν' → ¬ c = 0 → numC (t k).1 (t k).2.2.1 M = c → Ok (f_X11_numeral_j46 181 0 ν') (fun r ν' => RS b N t K ν' (fs none (numC (t k).1 (t k).2.2.1 M) k) (k + 1) ∧ (fs none (numC (t k).1 (t k).2.2.1 M) k = none → r = nI (t k).2.2.1 ∧ (t k).2.2.1 ≤ M) ∧ Kx AGx BN ν ν') := by
      intro ν' c h1 K1 h0 hC
      unfold f_X11_numeral_j46
      rw [if_neg (h1 k).ne, Ok_some, hC, fs_n h0]
      exact ⟨h1 _, fun z => (by cases z), K1⟩
    rw [if_pos h.2.2.1]
    by_cases c21 : (t k).1 = 21
    · obtain ⟨u, u1, u2, u3, u4⟩ := h.2.2.2.v2 c21
      rw [if_pos (h.2.2.2.k2.mpr c21), u1, if_neg (show ¬ nI u < 0 from nI_pos (by omega))]
      rcases Nat.lt_or_ge M u with z | z
      · have hC : numC (t k).1 (t k).2.2.1 M = 2 := by unfold numC; rw [if_pos c21, if_pos (by omega)]
        rw [if_neg (nI_ge z (by omega))]
        unfold f_X11_numeral_j41
        obtain ⟨ν', e, h1, K1⟩ := wrong_S h (c := 2) (by decide)
        rw [show (2 : Int32) = nI 2 from rfl, e, bd_some]
        exact j46 h1 K1 (by decide) hC
      · have hv : u = (t k).2.2.1 := by omega
        have hC : numC (t k).1 (t k).2.2.1 M = 0 := by unfold numC; rw [if_pos c21, if_neg (by omega)]
        rw [if_pos (nI_le z (by omega))]
        unfold f_X11_numeral_j46
        rw [if_pos h.2.2.1, Ok_vl, Ok_bd]
        refine (token_S T h (h.lt T (by omega))).mono ?_
        rintro - ν1 ⟨h1, K1⟩
        rw [Ok_some, hC, fs_0 rfl, u1]
        exact ⟨h1, fun _ => ⟨by rw [hv], by omega⟩, K1⟩
    · have hC : numC (t k).1 (t k).2.2.1 M = 1 := by unfold numC; rw [if_neg c21]
      rw [if_neg (fun z => c21 (h.2.2.2.k2.mp z))]
      obtain ⟨ν', e, h1, K1⟩ := wrong_S h (c := 1) (by decide)
      rw [show (1 : Int32) = nI 1 from rfl, e, bd_some]
      exact j46 h1 K1 (by decide) hC
theorem fresh_spec (T : Toks b N t K) {f : Option (Nat × Nat)} (h : RS b N t K ν f k) {a z f0 n : Nat} (ha : kd a = (0, z)) (hz : f0 + n ≤ z) (hz2 : z < 2000) {q : Option Nat} (hq : fnd (fun j => decide (ν.1 a (f0 + j) = nI (t k).2.2.1)) n = q) : Ok (f_X11_fresh 181 a (nI f0) (nI n) ν) (fun r ν' => RS b N t K ν' (fs f (nameC (t k).1 q) k) (k + 1) ∧ (fs f (nameC (t k).1 q) k = none → r = nI (t k).2.2.1) ∧ Kx AGx BN ν ν') := by
  unfold f_X11_fresh
  cases f with
  | some x =>
    rw [if_neg h.ne, Ok_some]
    exact ⟨h.any _, fun z => (by cases z), Kx.rfl'⟩
  | none =>
    have j44 : ∀ {ν' : fMem} {c : Nat}, (∀ k', RS b N t K ν' (some (c, k)) k') → Kx AGx BN ν ν' → ¬ c = 0 → nameC (t k).1 q = c → Ok (f_X11_fresh_j44 181 ν') (fun r ν' => RS b N t K ν' (fs none (nameC (t k).1 q) k) (k + 1) ∧ (fs none (nameC (t k).1 q) k = none → r = nI (t k).2.2.1) ∧ Kx AGx BN ν ν') := by
      intro ν' c h1 K1 h0 hC
      unfold f_X11_fresh_j44
      rw [if_neg (h1 k).ne, Ok_some, hC, fs_n h0]
      exact ⟨h1 _, fun z => (by cases z), K1⟩
    rw [if_pos h.2.2.1]
    by_cases c20 : (t k).1 = 20
    · rw [if_pos (h.2.2.2.k1.mpr c20), h.2.2.2.v1 c20, found_eq ha hz hz2, hq, bd_some]
      cases q with
      | none =>
        have hC : nameC (t k).1 none = 0 := by unfold nameC; rw [if_pos c20]
        rw [show oI none = -1 from rfl, if_pos rfl]
        unfold f_X11_fresh_j44
        rw [if_pos h.2.2.1, Ok_vl, Ok_bd]
        refine (token_S T h (h.lt T (by omega))).mono ?_
        rintro - ν1 ⟨h1, K1⟩
        rw [Ok_some, hC, fs_0 rfl, h.2.2.2.v1 c20]
        exact ⟨h1, fun _ => rfl, K1⟩
      | some w =>
        have hC : nameC (t k).1 (some w) = 3 := by unfold nameC; rw [if_pos c20]
        have hw := fnd_lt hq
        rw [show oI (some w) = nI w from rfl, if_neg (nI_nm1 (by omega))]
        obtain ⟨ν', e, h1, K1⟩ := wrong_S h (c := 3) (by decide)
        rw [show (3 : Int32) = nI 3 from rfl, e, bd_some]
        exact j44 h1 K1 (by decide) hC
    · have hC : nameC (t k).1 q = 1 := by unfold nameC; rw [if_neg c20]
      rw [if_neg (fun z => c20 (h.2.2.2.k1.mp z))]
      obtain ⟨ν', e, h1, K1⟩ := wrong_S h (c := 1) (by decide)
      rw [show (1 : Int32) = nI 1 from rfl, e, bd_some]
      exact j44 h1 K1 (by decide) hC
theorem roomAtHand_spec (T : Toks b N t K) {f : Option (Nat × Nat)} (h : RS b N t K ν f k) {n : Nat} (hn : n ≤ 6) (hc : ν.1 183 7 = nI n) {q : Option Nat} (hq : fnd (fun j => decide (ν.1 184 (6 + j) = nI (t k).2.2.1)) n = q) : Ok (f_X11_roomAtHand 181 ν) (fun r ν' => RS b N t K ν' (fs f (roomC (t k).1 q) k) k ∧ (fs f (roomC (t k).1 q) k = none → (t k).1 = 20 ∧ ∃ a, q = some a ∧ a < n ∧ r = nI a) ∧ Kx AGx BN ν ν') := by
  have kd184 : kd 184 = (0, 12) := by decide
  unfold f_X11_roomAtHand
  simp only [Nat.reduceAdd]
  cases f with
  | some x =>
    rw [if_neg h.ne, Ok_some]
    exact ⟨h.any _, fun z => (by cases z), Kx.rfl'⟩
  | none =>
    have j52 : ∀ {ν' : fMem} {c : Nat}, (∀ k', RS b N t K ν' (some (c, k)) k') → Kx AGx BN ν ν' → ¬ c = 0 → roomC (t k).1 q = c → Ok (f_X11_roomAtHand_j52 181 ν') (fun r ν' => RS b N t K ν' (fs none (roomC (t k).1 q) k) k ∧ (fs none (roomC (t k).1 q) k = none → (t k).1 = 20 ∧ ∃ a, q = some a ∧ a < n ∧ r = nI a) ∧ Kx AGx BN ν ν') := by
      intro ν' c h1 K1 h0 hC
      unfold f_X11_roomAtHand_j52
      rw [if_neg (h1 k).ne, Ok_some, hC, fs_n h0]
      exact ⟨h1 _, fun z => (by cases z), K1⟩
    rw [if_pos h.2.2.1]
    by_cases c20 : (t k).1 = 20
    · have ef : f_X11_found 184 6 (nI n) (nI (t k).2.2.1) ν = some (oI q, ν) := by
        rw [← hq]
        exact found_eq (from0 := 6) kd184 (by omega) (by decide)
      have er : f_X11_fresher 181 0 ν = some (nI n, ν) := fresher_eq (w := 0) (by decide) hc
      rw [if_pos (h.2.2.2.k1.mpr c20), er, bd_some, h.2.2.2.v1 c20, ef, bd_some]
      cases q with
      | some w =>
        have hC : roomC (t k).1 (some w) = 0 := by unfold roomC; rw [if_pos c20]
        have hw := fnd_lt hq
        rw [show oI (some w) = nI w from rfl, if_neg (nI_nm1 (by omega))]
        unfold f_X11_roomAtHand_j52
        simp only [Nat.reduceAdd]
        rw [if_pos h.2.2.1, er, bd_some, h.2.2.2.v1 c20, ef, bd_some, Ok_some, hC, fs_0 rfl]
        exact ⟨h, fun _ => ⟨c20, w, rfl, hw.1, rfl⟩, Kx.rfl'⟩
      | none =>
        have hC : roomC (t k).1 none = 4 := by unfold roomC; rw [if_pos c20]
        rw [show oI none = -1 from rfl, if_pos rfl]
        obtain ⟨ν', e, h1, K1⟩ := wrong_S h (c := 4) (by decide)
        rw [show (4 : Int32) = nI 4 from rfl, e, bd_some]
        exact j52 h1 K1 (by decide) hC
    · have hC : roomC (t k).1 q = 1 := by unfold roomC; rw [if_neg c20]
      rw [if_neg (fun z => c20 (h.2.2.2.k1.mp z))]
      obtain ⟨ν', e, h1, K1⟩ := wrong_S h (c := 1) (by decide)
      rw [show (1 : Int32) = nI 1 from rfl, e, bd_some]
      exact j52 h1 K1 (by decide) hC
theorem roomAhead_spec (T : Toks b N t K) {f : Option (Nat × Nat)} (h : RS b N t K ν f k) {n : Nat} (hn : n ≤ 6) (hc : ν.1 183 7 = nI n) {q : Option Nat} (hq : fnd (fun j => decide (ν.1 184 (6 + j) = nI (t k).2.2.1)) n = q) : Ok (f_X11_roomAhead 181 ν) (fun r ν' => RS b N t K ν' (fs f (roomC (t k).1 q) k) (k + 1) ∧ (fs f (roomC (t k).1 q) k = none → ∃ a, q = some a ∧ a < n ∧ r = nI a) ∧ Kx AGx BN ν ν') := by
  unfold f_X11_roomAhead
  rw [Ok_bd]
  refine (roomAtHand_spec T h hn hc hq).mono ?_
  rintro r ν1 ⟨h1, h2, K1⟩
  rw [Ok_bd]
  refine (goOn_S T h1 (fun z => by have := (h2 z).1; omega)).mono ?_
  rintro - ν2 ⟨h3, K2⟩
  rw [Ok_some]
  exact ⟨h3, fun z => (h2 z).2, K1.trans K2⟩
end RLine
