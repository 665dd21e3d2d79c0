/-! .. the dead, doors, laws -/
section LineK2
variable {b : Nat → Nat} {N : Nat} {t : TQ} {K k : Nat} {μ ν : fMem} {y : Nat} {c : Nat → Nat} {D : Nat → Nat → Bool} {L : Nat → List (Int32 × Int32)}
theorem lj_dead (T : Toks b N t K) (hT : TkOk t) (hy : y = 2 ∨ y = 37) (hr : μ.2.2 30 3 = y) (hTc : CT μ t K k) (hR : RS b N t K ν none k) (H : JB μ y ν c D L) (hs : (t k).1 = 3) (hn : c 3 < 6) : ∃ r μ' ν', f_X5_readLine 30 μ = some (r, μ') ∧ f_X11_line_j65 181 (nI 3) ν = some ((), ν') ∧ LJ b N t K y μ ν k r μ' ν' := by
  have hf3 := H.2.2.2.2.1
  generalize hq1 : fnd (fun j => decide (μ.1 (y + 6) j = nI (t (k + 1)).2.2.1)) (c 3) = q1
  generalize hF : fs (fs (fs (fs (fs none (nameC (t (k + 1)).1 q1) (k + 1)) (numC (t (k + 2)).1 (t (k + 2)).2.2.1 9) (k + 2)) (numC (t (k + 3)).1 (t (k + 3)).2.2.1 5) (k + 3)) (numC (t (k + 4)).1 (t (k + 4)).2.2.1 1) (k + 4)) (numC (t (k + 5)).1 (t (k + 5)).2.2.1 100) (k + 5) = F
  obtain ⟨u, ν', e', hQ⟩ := line_dead T (fun j => (hT j).1) hR (by omega) hn (H.1.1 3 (by decide)).2 (by rw [← hq1]; exact fnd_congr fun i hi => by rw [(hf3 i hi).1]) hF (fun ν1 h1 K1 e1 c1 => jG (ν := ν) T h1 K1 (fun a j => ⟨fun z => Or.inl z, fun z w => by omega⟩) (fun _ => e1) (P := fun ν2 => ν2.1 191 (6 + c 3) = nI (t (k + 1)).2.2.1 ∧ (ν2.1 192 (6 + c 3) = nI (t (k + 2)).2.2.1 ∧ (t (k + 2)).2.2.1 ≤ 9) ∧ (ν2.1 193 (6 + c 3) = nI (t (k + 3)).2.2.1 ∧ (t (k + 3)).2.2.1 ≤ 5) ∧ (ν2.1 194 (6 + c 3) = nI (t (k + 4)).2.2.1 ∧ (t (k + 4)).2.2.1 ≤ 1) ∧ (ν2.1 195 (6 + c 3) = nI (t (k + 5)).2.2.1 ∧ (t (k + 5)).2.2.1 ≤ 100) ∧ ν2.1 183 10 = nI (c 3 + 1)) c1 (fun ν2 e h => by
    rw [e 191 _ (by omega), e 192 _ (by omega), e 193 _ (by omega), e 194 _ (by omega), e 195 _ (by omega), e 183 _ (by omega)]; exact h))
  have hA : ∀ a j, (AGx a j ∨ (a = 181 ∧ j = 21) ∨ (191 ≤ a ∧ a ≤ 195 ∧ j = 6 + c 3) ∨ (a = 183 ∧ j = 10)) → AP a j := by
    intro a j h
    rcases h with h | h | h | h
    · exact AGx_AP (Or.inl h)
    · exact AGx_AP (Or.inr ⟨h.1, by omega⟩)
    · exact off_le (by omega)
    · exact off_le (by omega)
  obtain ⟨r, μ', e, hJ⟩ : Ok (f_X5_readLine 30 μ) (fun r μ' => LJ b N t K y μ ν k r μ' ν') := by
    refine cline hy hr T.1 T.2.2.2 (hT k).1 hTc H.cs H.c9 (fun z => by omega) (fun x μ' hx hz => ?_) (fun _ hm μ1 K1 T1 => ?_)
    · rcases hz with hz | hz
      · omega
      · rw [hs] at hz
        exact absurd hz.2.1 (nI_ge hn (by decide))
    · rw [hs]
      have hr1 : μ1.2.2 30 3 = y := by rw [K1.1]; exact hr
      unfold f_X5_readRest
      rw [if_neg (by decide), if_neg (by decide), if_neg (by decide), if_pos (by decide), Ok_bd]
      refine (readDead_spec (q1 := q1) hy hr1 T.1 T.2.2.2 hT T1 hn (by rw [K1.2.1 _ _ (by omega)]; exact H.cs 3 (by decide)) (by rw [← hq1]; exact fnd_congr fun i hi => by rw [K1.2.1 _ _ (by omega)])).mono ?_
      have P1 := P_AX1 (y := y) K1
      rintro r μ2 (⟨h0, rfl, T2, K2, e2, e3, e4, e5, e6⟩ | ⟨x, h0, h2⟩)
      · refine bl_gd (Or.inr rfl) (Or.inr ⟨rfl, by rw [K2.1, K1.1]; exact hr, ?_⟩)
        have c2 : μ2.1 (y + 1) 3 = nI (c 3) := by rw [K2.2.1 _ _ (by omega), K1.2.1 _ _ (by omega)]; exact H.cs 3 (by decide)
        rw [c2, nI_1]
        have K3 : Kx (fun a j => AX1 a j ∨ (a = 30 ∧ j = 4) ∨ ((a = y + 6 ∨ (y + 11 ≤ a ∧ a ≤ y + 14)) ∧ j = c 3) ∨ (a = y + 1 ∧ j = 3)) BN μ (sI μ2 (y + 1) 3 (nI (c 3 + 1))) := ((K1.wide (fun a j h => by omega) (fun _ _ h => h)).trans (K2.wide (fun a j h => by omega) (fun _ _ h => h))).sI (by omega)
        refine LJ.mk (k' := k + 6) hA (by omega) (Or.inl ⟨hF.symm.trans h0, rfl, T2.up hy, K3.wide (fun a j h => by unfold PCc; omega) (fun _ _ h => h), ⟨by rw [K3.2.1 _ _ (by omega)], by rw [K3.2.1 _ _ (by omega)], by rw [K3.2.1 _ _ (by omega)]⟩⟩) hQ (fun _ _ h21 hP hν => ⟨_, D, L, H.dead hn (fun a j h1 h2 h3 h4 h5 => K3.2.1 _ _ (by omega)) (fun a j h1 h2 h3 => hν _ _ (by omega)) (by rw [sI_i, if_pos ⟨rfl, rfl⟩]) hP.2.2.2.2.2 ⟨?_, ?_, ?_, ?_, ?_⟩ h21⟩)
        · rw [sI_i, if_neg (by omega), hP.1]; exact e2
        · exact ⟨_, by have := hP.2.1.2; omega, by rw [sI_i, if_neg (by omega)]; exact e3, hP.2.1.1⟩
        · exact ⟨_, by have := hP.2.2.1.2; omega, by rw [sI_i, if_neg (by omega)]; exact e4, hP.2.2.1.1⟩
        · exact ⟨_, by have := hP.2.2.2.1.2; omega, by rw [sI_i, if_neg (by omega)]; exact e5, hP.2.2.2.1.1⟩
        · exact ⟨_, by have := hP.2.2.2.2.1.2; omega, by rw [sI_i, if_neg (by omega)]; exact e6, hP.2.2.2.2.1.1⟩
      · have h2 := h2.tr P1
        obtain ⟨rfl, -⟩ := id h2
        have h0' := hF.symm.trans h0
        exact bl_gd (Or.inl rfl) (Or.inl ⟨rfl, LJ.mk (k' := k + 6) hA (by omega) (Or.inr ⟨x, h0', h2⟩) hQ (fun z => by rw [h0'] at z; cases z)⟩)
  exact ⟨r, μ', ν', e, e', hJ⟩
theorem lj_door (T : Toks b N t K) (hT : TkOk t) (hy : y = 2 ∨ y = 37) (hr : μ.2.2 30 3 = y) (hTc : CT μ t K k) (hR : RS b N t K ν none k) (H : JB μ y ν c D L) (hs : (t k).1 = 1) (hn : c 1 < 9) : ∃ r μ' ν', f_X5_readLine 30 μ = some (r, μ') ∧ f_X11_line_j65 181 (nI 1) ν = some ((), ν') ∧ LJ b N t K y μ ν k r μ' ν' := by
  have hf0 := H.2.2.1
  have hm6 := H.1.2.2.1
  have hD := H.2.2.2.2.2.2.1
  generalize hq1 : fnd (fun j => decide (μ.1 (y + 3) j = nI (t (k + 1)).2.2.1)) (c 0) = q1
  generalize hq2 : fnd (fun j => decide (μ.1 (y + 3) j = nI (t (k + 2)).2.2.1)) (c 0) = q2
  generalize hF : fs (fs none (roomC (t (k + 1)).1 q1) (k + 1)) (doorC (t (k + 2)).1 (q1.getD 0) q2 D) (k + 2) = F
  obtain ⟨u, ν', e', hQ⟩ := line_door T (fun j => (hT j).1) hR (by omega) hn hm6 (H.1.1 1 (by decide)).2 (H.1.1 0 (by decide)).2 (by rw [← hq1]; exact fnd_congr fun i hi => by rw [hf0 i hi]) (by rw [← hq2]; exact fnd_congr fun i hi => by rw [hf0 i hi]) hD.2.1 hD.2.2.2.2 hF (fun ν1 h1 K1 e1 c1 => jG (ν := ν) T h1 K1 (fun a j => ⟨fun z => Or.inl z, fun z w => by omega⟩) (fun _ => e1) (P := fun ν2 => ∃ a c', q1 = some a ∧ q2 = some c' ∧ ν2.1 185 (9 + c 1) = nI a ∧ ν2.1 186 (9 + c 1) = nI c' ∧ ν2.1 183 8 = nI (c 1 + 1)) c1 (fun ν2 e h => by
    rw [e 185 _ (by omega), e 186 _ (by omega), e 183 _ (by omega)]; exact h))
  have hA : ∀ a j, (AGx a j ∨ (a = 181 ∧ j = 21) ∨ ((a = 185 ∨ a = 186) ∧ j = 9 + c 1) ∨ (a = 183 ∧ j = 8)) → AP a j := by
    intro a j h
    rcases h with h | h | h | h
    · exact AGx_AP (Or.inl h)
    · exact AGx_AP (Or.inr ⟨h.1, by omega⟩)
    · exact off_le (by omega)
    · exact off_le (by omega)
  obtain ⟨r, μ', e, hJ⟩ : Ok (f_X5_readLine 30 μ) (fun r μ' => LJ b N t K y μ ν k r μ' ν') := by
    refine cline hy hr T.1 T.2.2.2 (hT k).1 hTc H.cs H.c9 (fun z => by omega) (fun x μ' hx hz => ?_) (fun _ hm μ1 K1 T1 => ?_)
    · rcases hz with hz | hz
      · omega
      · rw [hs] at hz
        exact absurd hz.2.1 (nI_ge hn (by decide))
    · rw [hs]
      have hr1 : μ1.2.2 30 3 = y := by rw [K1.1]; exact hr
      unfold f_X5_readRest
      rw [if_neg (by decide), if_pos (by decide), Ok_bd]
      refine (readDoor_spec (q1 := q1) (q2 := q2) (D := D) hy hr1 T.1 T.2.2.2 hT T1 hm6 (by rw [K1.2.1 _ _ (by omega)]; exact H.cs 0 (by decide)) (fun a b' ha hb => by rw [K1.2.1 _ _ (by omega)]; exact hD.2.2.2.1 a b' ha hb) (by rw [← hq1]; exact fnd_congr fun i hi => by rw [K1.2.1 _ _ (by omega)]) (by rw [← hq2]; exact fnd_congr fun i hi => by rw [K1.2.1 _ _ (by omega)])).mono ?_
      have P1 := P_AX1 (y := y) K1
      rintro r μ2 (⟨a, c', ea, ec, ha, hc', h0, rfl, T2, K2, nac, e2, e3⟩ | ⟨x, h0, h2⟩)
      · refine bl_gd (Or.inr rfl) (Or.inr ⟨rfl, by rw [K2.1, K1.1]; exact hr, ?_⟩)
        have c2 : μ2.1 (y + 1) 1 = nI (c 1) := by rw [K2.2.1 _ _ (by omega), K1.2.1 _ _ (by omega)]; exact H.cs 1 (by decide)
        rw [c2, nI_1]
        have K3 : Kx (fun x j => AX1 x j ∨ (x = 30 ∧ j = 4) ∨ (x = y + 7 ∧ (j = a ∨ j = c')) ∨ (x = y + 1 ∧ j = 1)) BN μ (sI μ2 (y + 1) 1 (nI (c 1 + 1))) := ((K1.wide (fun a j h => by omega) (fun _ _ h => h)).trans (K2.wide (fun a j h => by omega) (fun _ _ h => h))).sI (by omega)
        refine LJ.mk (k' := k + 3) hA (by omega) (Or.inl ⟨hF.symm.trans h0, rfl, T2.up hy, K3.wide (fun a j h => by unfold PCc; omega) (fun _ _ h => h), ⟨by rw [K3.2.1 _ _ (by omega)], by rw [K3.2.1 _ _ (by omega)], by rw [K3.2.1 _ _ (by omega)]⟩⟩) hQ (fun _ _ h21 hP hν => ?_)
        obtain ⟨a', c'', ea', ec', g5, g6, g7⟩ := hP
        rw [ea] at ea'
        rw [ec] at ec'
        cases ea'
        cases ec'
        exact ⟨_, _, L, H.door hn ha hc' nac (fun x j h1 h2 h3 h4 h5 => K3.2.1 _ _ (by omega)) (fun x j h1 h2 h3 => hν _ _ (by omega)) (by rw [sI_i, if_pos ⟨rfl, rfl⟩]) g7 (by rw [sI_i, if_neg (by omega), e2, K1.2.1 _ _ (by omega)]) (by rw [sI_i, if_neg (by omega), e3, K1.2.1 _ _ (by omega)]) g5 g6 h21⟩
      · have h2 := h2.tr P1
        obtain ⟨rfl, -⟩ := id h2
        have h0' := hF.symm.trans h0
        exact bl_gd (Or.inl rfl) (Or.inl ⟨rfl, LJ.mk (k' := k + 3) hA (by omega) (Or.inr ⟨x, h0', h2⟩) hQ (fun z => by rw [h0'] at z; cases z)⟩)
  exact ⟨r, μ', ν', e, e', hJ⟩
end LineK2
