/-! lines of things, the dead, glasses, as the class reads them -/
def PCc (y k : Nat) : Prop := (30 ≤ k ∧ k ≤ 36 ∧ ¬ k = 32) ∨ k = 65 ∨ (y ≤ k ∧ k ≤ y + 27)
/-- the class ends in a fault -/
def CFx (y : Nat) (μ μ' : fMem) (t : TQ) (x : Nat × Nat) (r : Int32) : Prop := r = 0 ∧ Kx (fun k _ => PCc y k) BN μ μ' ∧ μ'.1 30 0 = nI x.1 ∧ μ'.1 30 1 = nI (t x.2).2.1 ∧ ¬ x.1 = 0 ∧ x.1 < 10
theorem nameC_lt (s : Nat) (q : Option Nat) : nameC s q < 10 := by
  unfold nameC
  split
  · split <;> decide
  · decide
theorem roomC_lt (s : Nat) (q : Option Nat) : roomC s q < 10 := by
  unfold roomC
  split
  · split <;> decide
  · decide
theorem numC_lt (s v M : Nat) : numC s v M < 10 := by
  unfold numC
  split
  · split <;> decide
  · decide
section CLine2
variable {μ : fMem} {y : Nat} {t : TQ} {K k : Nat}
theorem CFl.x {μ0 : fMem} {c : Nat} {r : Int32} {μ' : fMem} (h : CFl y μ μ' t c k r) (h0 : ¬ c = 0) (hc : c < 10) (K0 : Kx (fun k _ => PCc y k) BN μ0 μ) : CFx y μ0 μ' t (c, k) r := ⟨h.1, K0.trans (h.2.1.wide (fun a j h => Or.inl ⟨by omega, by omega, by omega⟩) (fun _ _ h => h)), h.2.2.1, h.2.2.2, h0, hc⟩
theorem readThing_spec (hy : y = 2 ∨ y = 37) (hr : μ.2.2 30 3 = y) (hK : K ≤ 700) (hE : (t K).1 = 22) (h36 : ∀ j, (t j).1 ≤ 36 ∧ ((t j).1 = 21 → (t j).2.2.1 < 2 ^ 31)) (T : CT μ t K k) {m n : Nat} (hn : n < 8) (hm : m ≤ 6) (hc : μ.1 (y + 1) 2 = nI n) (hc0 : μ.1 (y + 1) 0 = nI m) {q1 q2 : Option Nat} (hq1 : fnd (fun j => decide (μ.1 (y + 5) j = nI (t k).2.2.1)) n = q1) (hq2 : fnd (fun j => decide (μ.1 (y + 3) j = nI (t (k + 1)).2.2.1)) m = q2) : Ok (f_X5_readThing 30 (nI n) μ) (fun r μ' => (fs (fs (fs (fs none (nameC (t k).1 q1) k) (roomC (t (k + 1)).1 q2) (k + 1)) (numC (t (k + 2)).1 (t (k + 2)).2.2.1 5) (k + 2)) (numC (t (k + 3)).1 (t (k + 3)).2.2.1 9) (k + 3) = none ∧ r = 1 ∧ CT μ' t K (k + 4) ∧ Kx (fun a j => AX1 a j ∨ (a = 30 ∧ j = 4) ∨ ((a = y + 5 ∨ a = y + 8 ∨ a = y + 9 ∨ a = y + 10) ∧ j = n)) BN μ μ' ∧ μ'.1 (y + 5) n = nI (t k).2.2.1 ∧ (∃ a, q2 = some a ∧ a < m ∧ μ'.1 (y + 8) n = nI a) ∧ μ'.1 (y + 9) n = nI (t (k + 2)).2.2.1 ∧ μ'.1 (y + 10) n = nI (t (k + 3)).2.2.1) ∨ ∃ x, fs (fs (fs (fs none (nameC (t k).1 q1) k) (roomC (t (k + 1)).1 q2) (k + 1)) (numC (t (k + 2)).1 (t (k + 2)).2.2.1 5) (k + 2)) (numC (t (k + 3)).1 (t (k + 3)).2.2.1 9) (k + 3) = some x ∧ CFx y μ μ' t x r) := by
  have k9 : kd (y + 9) = (0, 8) := by rcases hy with rfl | rfl <;> decide
  have k10 : kd (y + 10) = (0, 8) := by rcases hy with rfl | rfl <;> decide
  unfold f_X5_readThing
  rw [Ok_bd]
  refine (readName_spec (w := 2) hy hr hK hE (h36 k).1 T (by decide) hn hc hq1).mono ?_
  rintro r μ1 (⟨c1, rfl, T1, K1, e1⟩ | ⟨c1, h1⟩)
  · rw [fs_0 c1, if_neg (by decide), Ok_bd]
    have hr1 : μ1.2.2 30 3 = y := by rw [K1.1]; exact hr
    have P1 : Kx (fun k _ => PCc y k) BN μ μ1 := K1.wide (fun a j h => by unfold PCc; omega) (fun _ _ h => h)
    refine (readRoom_spec (q := q2) hy hr1 hK hE (h36 _).1 T1 hm (by rw [K1.2.1 _ _ (by omega)]; exact hc0) (by rw [← hq2]; exact fnd_congr fun i hi => by rw [K1.2.1 _ _ (by omega)])).mono ?_
    rintro r μ2 (⟨c2, rfl, T2, K2, a, ea, ha, e2⟩ | ⟨c2, rfl, K2, e20, e21⟩)
    · rw [fs_0 c2, if_neg (by decide), if_neg (nI_pos (by omega)), if_neg (show ¬ 8 ≤ nI n from nI_ge (b := 8) hn (by decide)), Ok_vl, show μ2.2.2 30 3 = y by rw [K2.1]; exact hr1, gd_t (kd2 hy), gd_t (ixN hn (by decide)), Ok_vl, nI_clamp (by omega), e2]
      have P2 : Kx (fun k _ => PCc y k) BN μ μ2 := P1.trans (K2.wide (fun a j h => by unfold PCc; omega) (fun _ _ h => h))
      have T3 : CT (sI μ2 (y + 8) n (nI a)) t K (k + 2) := T2.of (fun j hj => by rw [sI_i, if_neg (by omega)]) (fun c a b => by funext j; rw [sI_i, if_neg (by omega)])
      have hr3 : (sI μ2 (y + 8) n (nI a)).2.2 30 3 = y := by rw [sI_r, K2.1]; exact hr1
      have K3 : Kx (fun a j => AX1 a j ∨ (a = 30 ∧ j = 4) ∨ ((a = y + 5 ∨ a = y + 8 ∨ a = y + 9 ∨ a = y + 10) ∧ j = n)) BN μ (sI μ2 (y + 8) n (nI a)) := ((K1.wide (fun a j h => by omega) (fun _ _ h => h)).trans (K2.wide (fun a j h => by omega) (fun _ _ h => h))).sI (by omega)
      have P3 : Kx (fun k _ => PCc y k) BN μ (sI μ2 (y + 8) n (nI a)) := P2.sI (by unfold PCc; omega)
      have e5 : (sI μ2 (y + 8) n (nI a)).1 (y + 5) n = nI (t k).2.2.1 := by rw [sI_i, if_neg (by omega), K2.2.1 _ _ (by omega)]; exact e1
      have e8 : (sI μ2 (y + 8) n (nI a)).1 (y + 8) n = nI a := by rw [sI_i, if_pos ⟨rfl, rfl⟩]
      generalize sI μ2 (y + 8) n (nI a) = μ3 at T3 hr3 K3 P3 e5 e8 ⊢
      unfold f_X5_readThing_j41
      rw [Ok_vl, hr3, gd_t (kd2 hy), Ok_bd]
      refine (readInto_spec (y := y) (M := 5) hK hE (h36 _).1 (h36 _).2 T3 (by decide) k9 hn (by decide) (by omega)).mono ?_
      rintro r μ4 (⟨c4, rfl, l4, T4, K4, e4⟩ | ⟨c4, h4⟩)
      · rw [fs_0 c4, if_neg (by decide), Ok_vl, show μ4.2.2 30 3 = y by rw [K4.1]; exact hr3, gd_t (kd2 hy), Ok_bd]
        refine (readInto_spec (y := y) (M := 9) hK hE (h36 _).1 (h36 _).2 T4 (by decide) k10 hn (by decide) (by omega)).mono ?_
        have P4 : Kx (fun k _ => PCc y k) BN μ μ4 := P3.trans (K4.wide (fun a j h => by unfold PCc; omega) (fun _ _ h => h))
        rintro r μ5 (⟨c5, rfl, l5, T5, K5, e5'⟩ | ⟨c5, h5⟩)
        · rw [fs_0 c5, if_neg (by decide), gd_t (Or.inr rfl), Ok_some]
          refine Or.inl ⟨rfl, rfl, T5, (K3.trans (K4.wide (fun a j h => by omega) (fun _ _ h => h))).trans (K5.wide (fun a j h => by omega) (fun _ _ h => h)), ?_, ⟨a, ea, ha, ?_⟩, ?_, e5'⟩
          · rw [K5.2.1 _ _ (by omega), K4.2.1 _ _ (by omega)]; exact e5
          · rw [K5.2.1 _ _ (by omega), K4.2.1 _ _ (by omega)]; exact e8
          · rw [K5.2.1 _ _ (by omega)]; exact e4
        · rw [fs_n c5]
          have hx := h5.x c5 (numC_lt _ _ _) P4
          obtain ⟨rfl, -⟩ := id h5
          rw [if_pos rfl, gd_t (Or.inl rfl), Ok_some]
          exact Or.inr ⟨_, rfl, hx⟩
      · rw [fs_n c4]
        have hx := h4.x c4 (numC_lt _ _ _) P3
        obtain ⟨rfl, -⟩ := id h4
        rw [if_pos rfl, gd_t (Or.inl rfl), Ok_some]
        exact Or.inr ⟨_, rfl, hx⟩
    · rw [fs_n c2, if_pos rfl, gd_t (Or.inl rfl), Ok_some]
      exact Or.inr ⟨_, rfl, rfl, P1.trans (K2.wide (fun a j h => by unfold PCc; omega) (fun _ _ h => h)), e20, e21, c2, roomC_lt _ _⟩
  · rw [fs_n c1]
    have hx := h1.x c1 (nameC_lt _ _) Kx.rfl'
    obtain ⟨rfl, -⟩ := id h1
    rw [if_pos rfl, gd_t (Or.inl rfl), Ok_some]
    exact Or.inr ⟨_, rfl, hx⟩
theorem readDead_spec (hy : y = 2 ∨ y = 37) (hr : μ.2.2 30 3 = y) (hK : K ≤ 700) (hE : (t K).1 = 22) (h36 : ∀ j, (t j).1 ≤ 36 ∧ ((t j).1 = 21 → (t j).2.2.1 < 2 ^ 31)) (T : CT μ t K k) {n : Nat} (hn : n < 6) (hc : μ.1 (y + 1) 3 = nI n) {q1 : Option Nat} (hq1 : fnd (fun j => decide (μ.1 (y + 6) j = nI (t k).2.2.1)) n = q1) : Ok (f_X5_readDead 30 (nI n) μ) (fun r μ' => (fs (fs (fs (fs (fs none (nameC (t k).1 q1) k) (numC (t (k + 1)).1 (t (k + 1)).2.2.1 9) (k + 1)) (numC (t (k + 2)).1 (t (k + 2)).2.2.1 5) (k + 2)) (numC (t (k + 3)).1 (t (k + 3)).2.2.1 1) (k + 3)) (numC (t (k + 4)).1 (t (k + 4)).2.2.1 100) (k + 4) = none ∧ r = 1 ∧ CT μ' t K (k + 5) ∧ Kx (fun a j => AX1 a j ∨ (a = 30 ∧ j = 4) ∨ ((a = y + 6 ∨ (y + 11 ≤ a ∧ a ≤ y + 14)) ∧ j = n)) BN μ μ' ∧ μ'.1 (y + 6) n = nI (t k).2.2.1 ∧ μ'.1 (y + 11) n = nI (t (k + 1)).2.2.1 ∧ μ'.1 (y + 12) n = nI (t (k + 2)).2.2.1 ∧ μ'.1 (y + 13) n = nI (t (k + 3)).2.2.1 ∧ μ'.1 (y + 14) n = nI (t (k + 4)).2.2.1) ∨ ∃ x, fs (fs (fs (fs (fs none (nameC (t k).1 q1) k) (numC (t (k + 1)).1 (t (k + 1)).2.2.1 9) (k + 1)) (numC (t (k + 2)).1 (t (k + 2)).2.2.1 5) (k + 2)) (numC (t (k + 3)).1 (t (k + 3)).2.2.1 1) (k + 3)) (numC (t (k + 4)).1 (t (k + 4)).2.2.1 100) (k + 4) = some x ∧ CFx y μ μ' t x r) := by
  have k11 : kd (y + 11) = (0, 6) := by rcases hy with rfl | rfl <;> decide
  have k12 : kd (y + 12) = (0, 6) := by rcases hy with rfl | rfl <;> decide
  have k13 : kd (y + 13) = (0, 6) := by rcases hy with rfl | rfl <;> decide
  have k14 : kd (y + 14) = (0, 6) := by rcases hy with rfl | rfl <;> decide
  unfold f_X5_readDead
  rw [Ok_bd]
  refine (readName_spec (w := 3) hy hr hK hE (h36 k).1 T (by decide) (by omega) hc hq1).mono ?_
  rintro r μ1 (⟨c1, rfl, T1, K1, e1⟩ | ⟨c1, h1⟩)
  · have hr1 : μ1.2.2 30 3 = y := by rw [K1.1]; exact hr
    have P1 : Kx (fun k _ => PCc y k) BN μ μ1 := K1.wide (fun a j h => by unfold PCc; omega) (fun _ _ h => h)
    rw [fs_0 c1, if_neg (by decide), Ok_vl, hr1, gd_t (kd2 hy), Ok_bd]
    refine (readInto_spec (y := y) (M := 9) hK hE (h36 _).1 (h36 _).2 T1 (by decide) k11 hn (by decide) (by omega)).mono ?_
    rintro r μ2 (⟨c2, rfl, l2, T2, K2, e2⟩ | ⟨c2, h2⟩)
    · have hr2 : μ2.2.2 30 3 = y := by rw [K2.1]; exact hr1
      have P2 : Kx (fun k _ => PCc y k) BN μ μ2 := P1.trans (K2.wide (fun a j h => by unfold PCc; omega) (fun _ _ h => h))
      rw [fs_0 c2, if_neg (by decide), Ok_vl, hr2, gd_t (kd2 hy), Ok_bd]
      refine (readInto_spec (y := y) (M := 5) hK hE (h36 _).1 (h36 _).2 T2 (by decide) k12 hn (by decide) (by omega)).mono ?_
      rintro r μ3 (⟨c3, rfl, l3, T3, K3, e3⟩ | ⟨c3, h3⟩)
      · have hr3 : μ3.2.2 30 3 = y := by rw [K3.1]; exact hr2
        have P3 : Kx (fun k _ => PCc y k) BN μ μ3 := P2.trans (K3.wide (fun a j h => by unfold PCc; omega) (fun _ _ h => h))
        rw [fs_0 c3, if_neg (by decide), Ok_vl, hr3, gd_t (kd2 hy), Ok_bd]
        refine (readInto_spec (y := y) (M := 1) hK hE (h36 _).1 (h36 _).2 T3 (by decide) k13 hn (by decide) (by omega)).mono ?_
        rintro r μ4 (⟨c4, rfl, l4, T4, K4, e4⟩ | ⟨c4, h4⟩)
        · have hr4 : μ4.2.2 30 3 = y := by rw [K4.1]; exact hr3
          have P4 : Kx (fun k _ => PCc y k) BN μ μ4 := P3.trans (K4.wide (fun a j h => by unfold PCc; omega) (fun _ _ h => h))
          rw [fs_0 c4, if_neg (by decide), Ok_vl, hr4, gd_t (kd2 hy), Ok_bd]
          refine (readInto_spec (y := y) (M := 100) hK hE (h36 _).1 (h36 _).2 T4 (by decide) k14 hn (by decide) (by omega)).mono ?_
          rintro r μ5 (⟨c5, rfl, l5, T5, K5, e5⟩ | ⟨c5, h5⟩)
          · rw [fs_0 c5, if_neg (by decide), gd_t (Or.inr rfl), Ok_some]
            refine Or.inl ⟨rfl, rfl, T5, ((((K1.wide (fun a j h => by omega) (fun _ _ h => h)).trans (K2.wide (fun a j h => by omega) (fun _ _ h => h))).trans (K3.wide (fun a j h => by omega) (fun _ _ h => h))).trans (K4.wide (fun a j h => by omega) (fun _ _ h => h))).trans (K5.wide (fun a j h => by omega) (fun _ _ h => h)), ?_, ?_, ?_, ?_, e5⟩
            · rw [K5.2.1 _ _ (by omega), K4.2.1 _ _ (by omega), K3.2.1 _ _ (by omega), K2.2.1 _ _ (by omega)]; exact e1
            · rw [K5.2.1 _ _ (by omega), K4.2.1 _ _ (by omega), K3.2.1 _ _ (by omega)]; exact e2
            · rw [K5.2.1 _ _ (by omega), K4.2.1 _ _ (by omega)]; exact e3
            · rw [K5.2.1 _ _ (by omega)]; exact e4
          · rw [fs_n c5]
            have hx := h5.x c5 (numC_lt _ _ _) P4
            obtain ⟨rfl, -⟩ := id h5
            rw [if_pos rfl, gd_t (Or.inl rfl), Ok_some]
            exact Or.inr ⟨_, rfl, hx⟩
        · rw [fs_n c4]
          have hx := h4.x c4 (numC_lt _ _ _) P3
          obtain ⟨rfl, -⟩ := id h4
          rw [if_pos rfl, gd_t (Or.inl rfl), Ok_some]
          exact Or.inr ⟨_, rfl, hx⟩
      · rw [fs_n c3]
        have hx := h3.x c3 (numC_lt _ _ _) P2
        obtain ⟨rfl, -⟩ := id h3
        rw [if_pos rfl, gd_t (Or.inl rfl), Ok_some]
        exact Or.inr ⟨_, rfl, hx⟩
    · rw [fs_n c2]
      have hx := h2.x c2 (numC_lt _ _ _) P1
      obtain ⟨rfl, -⟩ := id h2
      rw [if_pos rfl, gd_t (Or.inl rfl), Ok_some]
      exact Or.inr ⟨_, rfl, hx⟩
  · rw [fs_n c1]
    have hx := h1.x c1 (nameC_lt _ _) Kx.rfl'
    obtain ⟨rfl, -⟩ := id h1
    rw [if_pos rfl, gd_t (Or.inl rfl), Ok_some]
    exact Or.inr ⟨_, rfl, hx⟩
/-- whether a door leads -/
theorem leads_mem {a c : Nat} (ha : a < 6) : ∃ x, f_X2_leads y (nI a) (nI c) μ = some (x, μ) ∧ (x = 0 ↔ nbit (μ.1 (y + 7) a) c) := by
  unfold f_X2_leads
  rw [if_neg (nI_pos (by omega)), if_neg (show ¬ 6 ≤ nI a from nI_ge (b := 6) ha (by decide)), gd_t (ixN ha (by decide)), nI_clamp (by omega)]
  by_cases z : nbit (μ.1 (y + 7) a) c
  · exact ⟨0, by rw [if_pos z, gd_t (Or.inl rfl)], ⟨fun _ => z, fun _ => rfl⟩⟩
  · exact ⟨1, by rw [if_neg z, gd_t (Or.inr rfl)], ⟨fun q => absurd q (by decide), fun q => absurd q z⟩⟩
def doorC (s : Nat) (one : Nat) (q : Option Nat) (D : Nat → Nat → Bool) : Nat := if s = 20 then (match q with | none => 4 | some a => if one = a then 5 else if D one a = true then 3 else 0) else 1
theorem doorC_lt (s o : Nat) (q : Option Nat) (D : Nat → Nat → Bool) : doorC s o q D < 10 := by
  unfold doorC
  split
  · split
    · decide
    · split
      · decide
      · split <;> decide
  · decide
theorem readDoor_spec (hy : y = 2 ∨ y = 37) (hr : μ.2.2 30 3 = y) (hK : K ≤ 700) (hE : (t K).1 = 22) (h36 : ∀ j, (t j).1 ≤ 36 ∧ ((t j).1 = 21 → (t j).2.2.1 < 2 ^ 31)) (T : CT μ t K k) {m : Nat} (hm : m ≤ 6) (hc0 : μ.1 (y + 1) 0 = nI m) {q1 q2 : Option Nat} {D : Nat → Nat → Bool} (hD : ∀ a b, a < 6 → b < 6 → (nbit (μ.1 (y + 7) a) b ↔ D a b = false)) (hq1 : fnd (fun j => decide (μ.1 (y + 3) j = nI (t k).2.2.1)) m = q1) (hq2 : fnd (fun j => decide (μ.1 (y + 3) j = nI (t (k + 1)).2.2.1)) m = q2) : Ok (f_X5_readDoor 30 μ) (fun r μ' => (∃ a c, q1 = some a ∧ q2 = some c ∧ a < m ∧ c < m ∧ fs (fs none (roomC (t k).1 q1) k) (doorC (t (k + 1)).1 (q1.getD 0) q2 D) (k + 1) = none ∧ r = 1 ∧ CT μ' t K (k + 2) ∧ Kx (fun x j => AX1 x j ∨ (x = 30 ∧ j = 4) ∨ (x = y + 7 ∧ (j = a ∨ j = c))) BN μ μ' ∧ ¬ a = c ∧ μ'.1 (y + 7) a = μ.1 (y + 7) a ||| shl 1 (nI c) ∧ μ'.1 (y + 7) c = μ.1 (y + 7) c ||| shl 1 (nI a)) ∨ ∃ x, fs (fs none (roomC (t k).1 q1) k) (doorC (t (k + 1)).1 (q1.getD 0) q2 D) (k + 1) = some x ∧ CFx y μ μ' t x r) := by
  unfold f_X5_readDoor
  rw [Ok_bd]
  refine (readRoom_spec (q := q1) hy hr hK hE (h36 _).1 T hm hc0 hq1).mono ?_
  rintro r μ1 (⟨c1, rfl, T1, K1, a, ea, ha, e1⟩ | ⟨c1, rfl, K1, e10, e11⟩)
  · have hr1 : μ1.2.2 30 3 = y := by rw [K1.1]; exact hr
    have P1 : Kx (fun k _ => PCc y k) BN μ μ1 := K1.wide (fun a j h => by unfold PCc; omega) (fun _ _ h => h)
    rw [fs_0 c1, if_neg (by decide), Ok_vl, e1, ea]
    simp only [Nat.reduceAdd, Option.getD_some]
    rw [T1.2.2.2.1, T1.2.2.2.2.2]
    by_cases c20 : (t (k + 1)).1 = 20
    · have hlt : k + 1 < K := Nat.lt_of_le_of_ne T1.2.1 (fun z => by rw [← z] at hE; omega)
      have hq2' : fnd (fun j => decide (μ1.1 (y + 3) j = nI (t (k + 1)).2.2.1)) m = q2 := by rw [← hq2]; exact fnd_congr fun i hi => by rw [K1.2.1 _ _ (by omega)]
      rw [if_pos (show nI (t (k + 1)).1 = 20 by rw [c20]; rfl), Ok_vl, hr1, gd_t (kd2 hy), show f_X2_find y 0 (nI (t (k + 1)).2.2.1) μ1 = some (oI q2, μ1) by rw [← hq2']; exact find_mem (w := 0) (by omega) (by omega) (by rw [K1.2.1 _ _ (by omega)]; exact hc0) _, bd_some]
      cases q2 with
      | none =>
        have hC : doorC (t (k + 1)).1 a none D = 4 := by unfold doorC; rw [if_pos c20]
        rw [show oI none = -1 from rfl, if_pos rfl, hC, fs_n (by decide)]
        exact cfail (y := y) T1 4 fun μ' h => Or.inr ⟨_, rfl, h.x (by decide) (by decide) P1⟩
      | some c =>
        have hc := fnd_lt hq2
        rw [show oI (some c) = nI c from rfl, if_neg (nI_nm1 (by omega))]
        by_cases eac : a = c
        · have hC : doorC (t (k + 1)).1 a (some c) D = 5 := by unfold doorC; rw [if_pos c20]; dsimp only; rw [if_pos eac]
          rw [if_pos (by rw [eac]), hC, fs_n (by decide)]
          exact cfail (y := y) T1 5 fun μ' h => Or.inr ⟨_, rfl, h.x (by decide) (by decide) P1⟩
        · rw [if_neg (fun z => eac ((nI_eq (by omega) (by omega)).mp z)), Ok_vl, hr1, gd_t (kd2 hy)]
          obtain ⟨x, ex, hx⟩ := leads_mem (μ := μ1) (y := y) (a := a) (c := c) (by omega)
          rw [K1.2.1 _ _ (by omega), hD a c (by omega) (by omega)] at hx
          rw [ex, bd_some]
          by_cases hd : D a c = true
          · have hC : doorC (t (k + 1)).1 a (some c) D = 3 := by unfold doorC; rw [if_pos c20]; dsimp only; rw [if_neg eac, if_pos hd]
            rw [if_neg (fun z => by rw [hx.mp z] at hd; cases hd), hC, fs_n (by decide)]
            exact cfail (y := y) T1 3 fun μ' h => Or.inr ⟨_, rfl, h.x (by decide) (by decide) P1⟩
          · have hC : doorC (t (k + 1)).1 a (some c) D = 0 := by unfold doorC; rw [if_pos c20]; dsimp only; rw [if_neg eac, if_neg hd]
            rw [if_pos (hx.mpr (by simpa using hd)), if_neg (nI_pos (by omega)), if_neg (show ¬ 6 ≤ nI a from nI_ge (b := 6) (by omega) (by decide)), if_neg (show ¬ 6 ≤ nI c from nI_ge (b := 6) (by omega) (by decide)), Ok_vl, hr1, gd_t (kd2 hy), gd_t (ixN (by omega) (by decide)), gd_t (ixN (by omega) (by decide)), Ok_vl, nI_clamp (by omega), Ok_vl, sI_r, hr1, gd_t (kd2 hy), gd_t (ixN (by omega) (by decide)), gd_t (ixN (by omega) (by decide)), Ok_vl, nI_clamp (by omega), hC, fs_0 rfl]
            unfold f_X5_readDoor_j134
            rw [Ok_bd]
            have f1 : (sI μ1 (y + 7) a (μ1.1 (y + 7) a ||| shl 1 (nI c))).1 (y + 7) c = μ.1 (y + 7) c := by rw [sI_i, if_neg (by omega), K1.2.1 _ _ (by omega)]
            rw [f1]
            have T3 : CT (sI (sI μ1 (y + 7) a (μ1.1 (y + 7) a ||| shl 1 (nI c))) (y + 7) c (μ.1 (y + 7) c ||| shl 1 (nI a))) t K (k + 1) := T1.of (fun j hj => by rw [sI_i, if_neg (by omega), sI_i, if_neg (by omega)]) (fun c a b => by funext j; rw [sI_i, if_neg (by omega), sI_i, if_neg (by omega)])
            refine (next_spec hK T3 hlt).mono ?_
            rintro - μ4 ⟨K4, T4⟩
            rw [gd_t (Or.inr rfl), Ok_some]
            refine Or.inl ⟨a, c, rfl, rfl, ha, hc.1, rfl, rfl, T4, (((K1.wide (fun a j h => by omega) (fun _ _ h => h)).sI (by omega)).sI (by omega)).trans (K4.wide (fun a j h => by omega) (fun _ _ h => h)), eac, ?_, ?_⟩
            · rw [K4.2.1 _ _ (by omega), sI_i, if_neg (by omega), sI_i, if_pos ⟨rfl, rfl⟩, K1.2.1 _ _ (by omega)]
            · rw [K4.2.1 _ _ (by omega), sI_i, if_pos ⟨rfl, rfl⟩]
    · have hC : doorC (t (k + 1)).1 a q2 D = 1 := by unfold doorC; rw [if_neg c20]
      rw [if_neg (show ¬ nI (t (k + 1)).1 = 20 from fun z => c20 ((nI_eq (b := 20) (by have := (h36 (k + 1)).1; omega) (by decide)).mp z)), hC, fs_n (by decide)]
      exact cfail (y := y) T1 1 fun μ' h => Or.inr ⟨_, rfl, h.x (by decide) (by decide) P1⟩
  · rw [fs_n c1, if_pos rfl, gd_t (Or.inl rfl), Ok_some]
    exact Or.inr ⟨_, rfl, rfl, K1.wide (fun a j h => by unfold PCc; omega) (fun _ _ h => h), e10, e11, c1, roomC_lt _ _⟩
end CLine2
