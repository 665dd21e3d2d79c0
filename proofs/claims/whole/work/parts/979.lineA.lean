/-! each kind of line, both beside each other -/
section LineK
variable {b : Nat → Nat} {N : Nat} {t : TQ} {K k : Nat} {μ ν : fMem} {y : Nat} {c : Nat → Nat} {D : Nat → Nat → Bool} {L : Nat → List (Int32 × Int32)}
theorem JB.cs (H : JB μ y ν c D L) : ∀ w, w < 6 → μ.1 (y + 1) w = nI (c w) := fun w hw => by
  rcases Nat.lt_or_ge w 5 with z | z
  · exact (H.1.1 w z).1
  · rw [show w = 5 by omega]; exact H.2.1.1.1
theorem JB.c9 (H : JB μ y ν c D L) : ∀ w, w < 6 → c w < 100 := fun w hw => by
  have h := H.1.2.2
  have h5 := H.2.1.1.2.1
  rcases (show w = 0 ∨ w = 1 ∨ w = 2 ∨ w = 3 ∨ w = 4 ∨ w = 5 by omega) with rfl | rfl | rfl | rfl | rfl | rfl <;> omega
theorem P_AX1 {μ1 : fMem} (K1 : Kx AX1 BN μ μ1) : Kx (fun k _ => PCc y k) BN μ μ1 := K1.wide (fun a j h => by unfold PCc; omega) (fun _ _ h => h)
theorem CT.up {μ1 : fMem} (T : CT μ1 t K k) (hy : y = 2 ∨ y = 37) {w : Nat} {v : Int32} : CT (sI μ1 (y + 1) w v) t K k := T.of (fun j hj => by rw [sI_i, if_neg (by omega)]) (fun c a b => by funext j; rw [sI_i, if_neg (by omega)])
theorem CFx.tr {μ1 μ2 : fMem} {x : Nat × Nat} {r : Int32} (h : CFx y μ1 μ2 t x r) (P : Kx (fun k _ => PCc y k) BN μ μ1) : CFx y μ μ2 t x r := ⟨h.1, P.trans h.2.1, h.2.2⟩
theorem lj_room (T : Toks b N t K) (hT : TkOk t) (hy : y = 2 ∨ y = 37) (hr : μ.2.2 30 3 = y) (hTc : CT μ t K k) (hR : RS b N t K ν none k) (H : JB μ y ν c D L) (hs : (t k).1 = 0) (hn : c 0 < 6) : ∃ r μ' ν', f_X5_readLine 30 μ = some (r, μ') ∧ f_X11_line_j65 181 (nI 0) ν = some ((), ν') ∧ LJ b N t K y μ ν k r μ' ν' := by
  have hf0 := H.2.2.1
  obtain ⟨u, ν', e', hQ⟩ := line_room (q1 := fnd (fun j => decide (μ.1 (y + 3) j = nI (t (k + 1)).2.2.1)) (c 0)) T hR (by omega) hn (H.1.1 0 (by decide)).2 (fnd_congr fun i hi => by rw [hf0 i hi]) (fun ν1 h1 K1 e1 c1 => jG (ν := ν) T h1 K1 (fun a j => ⟨fun z => Or.inl z, fun z w => by omega⟩) (fun _ => e1) (P := fun ν2 => ν2.1 184 (6 + c 0) = nI (t (k + 1)).2.2.1 ∧ ν2.1 183 7 = nI (c 0 + 1)) c1 (fun ν2 e h => ⟨by rw [e _ _ (by omega)]; exact h.1, by rw [e _ _ (by omega)]; exact h.2⟩))
  obtain ⟨r, μ', e, hJ⟩ : Ok (f_X5_readLine 30 μ) (fun r μ' => LJ b N t K y μ ν k r μ' ν') := by
    refine cline hy hr T.1 T.2.2.2 (hT k).1 hTc H.cs H.c9 (fun z => by omega) (fun x μ' hx hz => ?_) (fun _ hm μ1 K1 T1 => ?_)
    · rcases hz with hz | hz
      · omega
      · rw [hs] at hz
        exact absurd hz.2.1 (nI_ge hn (by decide))
    · rw [hs]
      unfold f_X5_readRest
      rw [if_pos (by decide), Ok_bd]
      refine (readName_spec (w := 0) hy (by rw [K1.1]; exact hr) T.1 T.2.2.2 (hT _).1 T1 (by decide) (n := c 0) (by omega) (by rw [K1.2.1 _ _ (by omega)]; exact H.cs 0 (by decide)) (q := fnd (fun j => decide (μ.1 (y + 3) j = nI (t (k + 1)).2.2.1)) (c 0)) (fnd_congr fun i hi => by rw [K1.2.1 _ _ (by omega)])).mono ?_
      have P1 := P_AX1 (y := y) K1
      rintro r μ2 (⟨h0, rfl, T2, K2, e2⟩ | ⟨h0, h2⟩)
      · refine bl_gd (Or.inr rfl) (Or.inr ⟨rfl, by rw [K2.1, K1.1]; exact hr, ?_⟩)
        have c2 : μ2.1 (y + 1) 0 = nI (c 0) := by rw [K2.2.1 _ _ (by omega), K1.2.1 _ _ (by omega)]; exact H.cs 0 (by decide)
        rw [c2, nI_1]
        have K3 : Kx (fun a j => AX1 a j ∨ (a = y + 3 ∧ j = c 0) ∨ (a = y + 1 ∧ j = 0)) BN μ (sI μ2 (y + 1) 0 (nI (c 0 + 1))) := ((K1.wide (fun a j h => by omega) (fun _ _ h => h)).trans (K2.wide (fun a j h => by omega) (fun _ _ h => h))).sI (by omega)
        refine LJ.mk (k' := k + 2) (fun a j h => ?_) (by omega) (Or.inl ⟨fs_0 h0, rfl, T2.up hy, K3.wide (fun a j h => by unfold PCc; omega) (fun _ _ h => h), ⟨by rw [K3.2.1 _ _ (by omega)], by rw [K3.2.1 _ _ (by omega)], by rw [K3.2.1 _ _ (by omega)]⟩⟩) hQ (fun _ _ h21 hP hν => ⟨_, D, L, H.room hn (fun a j h1 h2 h3 h4 h5 => K3.2.1 _ _ (by omega)) (fun a j h1 h2 h3 => hν _ _ (by omega)) (by rw [sI_i, if_pos ⟨rfl, rfl⟩]) hP.2 (by rw [sI_i, if_neg (by omega), hP.1]; exact e2) h21⟩)
        rcases h with h | h | h | h
        · exact AGx_AP (Or.inl h)
        · exact AGx_AP (Or.inr ⟨h.1, by omega⟩)
        · exact off_le (by omega)
        · exact off_le (by omega)
      · have hx := h2.x h0 (nameC_lt _ _) P1
        obtain ⟨rfl, -⟩ := id h2
        refine bl_gd (Or.inl rfl) (Or.inl ⟨rfl, LJ.mk (k' := k + 2) (fun a j h => ?_) (by omega) (Or.inr ⟨_, fs_n h0, hx⟩) hQ (fun z => by rw [fs_n h0] at z; cases z)⟩)
        rcases h with h | h | h | h
        · exact AGx_AP (Or.inl h)
        · exact AGx_AP (Or.inr ⟨h.1, by omega⟩)
        · exact off_le (by omega)
        · exact off_le (by omega)
  exact ⟨r, μ', ν', e, e', hJ⟩
theorem lj_glass (T : Toks b N t K) (hT : TkOk t) (hy : y = 2 ∨ y = 37) (hr : μ.2.2 30 3 = y) (hTc : CT μ t K k) (hR : RS b N t K ν none k) (H : JB μ y ν c D L) (hs : (t k).1 = 4) (hn : c 4 < 9) : ∃ r μ' ν', f_X5_readLine 30 μ = some (r, μ') ∧ f_X11_line_j65 181 (nI 4) ν = some ((), ν') ∧ LJ b N t K y μ ν k r μ' ν' := by
  have k15 : kd (y + 15) = (0, 9) := by rcases hy with rfl | rfl <;> decide
  obtain ⟨u, ν', e', hQ⟩ := line_glass T (fun j => (hT j).1) hR (by omega) hn (H.1.1 4 (by decide)).2 rfl (fun ν1 h1 K1 e1 c1 => jG (ν := ν) T h1 K1 (fun a j => ⟨fun z => Or.inl z, fun z w => by omega⟩) (fun _ => e1) (P := fun ν2 => (ν2.1 196 (9 + c 4) = nI (t (k + 1)).2.2.1 ∧ (t (k + 1)).2.2.1 ≤ 99) ∧ ν2.1 183 11 = nI (c 4 + 1)) c1 (fun ν2 e h => ⟨⟨by rw [e _ _ (by omega)]; exact h.1.1, h.1.2⟩, by rw [e _ _ (by omega)]; exact h.2⟩))
  obtain ⟨r, μ', e, hJ⟩ : Ok (f_X5_readLine 30 μ) (fun r μ' => LJ b N t K y μ ν k r μ' ν') := by
    refine cline hy hr T.1 T.2.2.2 (hT k).1 hTc H.cs H.c9 (fun z => by omega) (fun x μ' hx hz => ?_) (fun _ hm μ1 K1 T1 => ?_)
    · rcases hz with hz | hz
      · omega
      · rw [hs] at hz
        exact absurd hz.2.1 (nI_ge hn (by decide))
    · rw [hs]
      have hr1 : μ1.2.2 30 3 = y := by rw [K1.1]; exact hr
      unfold f_X5_readRest
      rw [if_neg (by decide), if_neg (by decide), if_neg (by decide), if_neg (by decide), if_pos (by decide), Ok_vl, hr1, gd_t (kd2 hy), Ok_bd]
      refine (readInto_spec (y := y) (M := 99) T.1 T.2.2.2 (hT _).1 (hT _).2 T1 (by decide) k15 hn (by decide) (by omega)).mono ?_
      have P1 := P_AX1 (y := y) K1
      rintro r μ2 (⟨h0, rfl, l2, T2, K2, e2⟩ | ⟨h0, h2⟩)
      · refine bl_gd (Or.inr rfl) (Or.inr ⟨rfl, by rw [K2.1, K1.1]; exact hr, ?_⟩)
        have c2 : μ2.1 (y + 1) 4 = nI (c 4) := by rw [K2.2.1 _ _ (by omega), K1.2.1 _ _ (by omega)]; exact H.cs 4 (by decide)
        rw [c2, nI_1]
        have K3 : Kx (fun a j => AX1 a j ∨ (a = 30 ∧ j = 4) ∨ (a = y + 15 ∧ j = c 4) ∨ (a = y + 1 ∧ j = 4)) BN μ (sI μ2 (y + 1) 4 (nI (c 4 + 1))) := ((K1.wide (fun a j h => by omega) (fun _ _ h => h)).trans (K2.wide (fun a j h => by omega) (fun _ _ h => h))).sI (by omega)
        refine LJ.mk (k' := k + 2) (fun a j h => ?_) (by omega) (Or.inl ⟨fs_0 h0, rfl, T2.up hy, K3.wide (fun a j h => by unfold PCc; omega) (fun _ _ h => h), ⟨by rw [K3.2.1 _ _ (by omega)], by rw [K3.2.1 _ _ (by omega)], by rw [K3.2.1 _ _ (by omega)]⟩⟩) hQ (fun _ _ h21 hP hν => ⟨_, D, L, H.glass hn (fun a j h1 h2 h3 h4 h5 => K3.2.1 _ _ (by omega)) (fun a j h1 h2 h3 => hν _ _ (by omega)) (by rw [sI_i, if_pos ⟨rfl, rfl⟩]) hP.2 ⟨_, by have := hP.1.2; omega, by rw [sI_i, if_neg (by omega)]; exact e2, hP.1.1⟩ h21⟩)
        rcases h with h | h | h | h
        · exact AGx_AP (Or.inl h)
        · exact AGx_AP (Or.inr ⟨h.1, by omega⟩)
        · exact off_le (by omega)
        · exact off_le (by omega)
      · have hx := h2.x h0 (numC_lt _ _ _) P1
        obtain ⟨rfl, -⟩ := id h2
        refine bl_gd (Or.inl rfl) (Or.inl ⟨rfl, LJ.mk (k' := k + 2) (fun a j h => ?_) (by omega) (Or.inr ⟨_, fs_n h0, hx⟩) hQ (fun z => by rw [fs_n h0] at z; cases z)⟩)
        rcases h with h | h | h | h
        · exact AGx_AP (Or.inl h)
        · exact AGx_AP (Or.inr ⟨h.1, by omega⟩)
        · exact off_le (by omega)
        · exact off_le (by omega)
  exact ⟨r, μ', ν', e, e', hJ⟩
theorem lj_seed (T : Toks b N t K) (hT : TkOk t) (hy : y = 2 ∨ y = 37) (hr : μ.2.2 30 3 = y) (hTc : CT μ t K k) (hR : RS b N t K ν none k) (H : JB μ y ν c D L) (hs : (t k).1 = 5) (hn : c 5 = 0) : ∃ r μ' ν', f_X5_readLine 30 μ = some (r, μ') ∧ f_X11_line_j65 181 (nI 5) ν = some ((), ν') ∧ LJ b N t K y μ ν k r μ' ν' := by
  obtain ⟨u, ν', e', hQ⟩ := line_seed T (fun j => (hT j).1) hR (by omega) rfl (fun ν1 h1 K1 e1 => jG (ν := ν) T h1 K1 (fun a j => ⟨fun z => Or.inl z, fun z w => by omega⟩) (fun _ => e1) (P := fun _ => True) (fun _ => trivial) (fun ν2 e h => trivial))
  obtain ⟨r, μ', e, hJ⟩ : Ok (f_X5_readLine 30 μ) (fun r μ' => LJ b N t K y μ ν k r μ' ν') := by
    refine cline hy hr T.1 T.2.2.2 (hT k).1 hTc H.cs H.c9 (fun z => by omega) (fun x μ' hx hz => ?_) (fun _ hm μ1 K1 T1 => ?_)
    · rcases hz with hz | hz
      · omega
      · rw [hs, hn] at hz
        exact absurd hz.2.1 (by decide)
    · rw [hs]
      unfold f_X5_readRest
      rw [if_neg (by decide), if_neg (by decide), if_neg (by decide), if_neg (by decide), if_neg (by decide), Ok_bd]
      refine (readNumber_spec (y := y) (M := 99999) T.1 T.2.2.2 (hT _).1 (hT _).2 T1 (by decide)).mono ?_
      have P1 := P_AX1 (y := y) K1
      rintro r μ2 (⟨h0, rfl, l2, T2, K2, e2⟩ | ⟨h0, h2⟩)
      · refine bl_gd (Or.inr rfl) (Or.inr ⟨rfl, by rw [K2.1, K1.1]; exact hr, ?_⟩)
        have c2 : μ2.1 (y + 1) 5 = nI (c 5) := by rw [K2.2.1 _ _ (by omega), K1.2.1 _ _ (by omega)]; exact H.cs 5 (by decide)
        rw [c2, nI_1]
        have K3 : Kx (fun a j => AX1 a j ∨ (a = 30 ∧ j = 4) ∨ (a = y + 1 ∧ j = 5)) BN μ (sI μ2 (y + 1) 5 (nI (c 5 + 1))) := ((K1.wide (fun a j h => by omega) (fun _ _ h => h)).trans (K2.wide (fun a j h => by omega) (fun _ _ h => h))).sI (by omega)
        refine LJ.mk (k' := k + 2) (fun a j h => ?_) (by omega) (Or.inl ⟨fs_0 h0, rfl, T2.up hy, K3.wide (fun a j h => by unfold PCc; omega) (fun _ _ h => h), ⟨by rw [K3.2.1 _ _ (by omega)], by rw [K3.2.1 _ _ (by omega)], by rw [K3.2.1 _ _ (by omega)]⟩⟩) hQ (fun _ _ h21 hP hν => ⟨_, D, L, H.seed hn (fun a j h1 h2 h3 h4 => K3.2.1 _ _ (by omega)) (fun a j h1 h2 => hν _ _ (by omega)) (by rw [sI_i, if_pos ⟨rfl, rfl⟩]) h21⟩)
        rcases h with h | h | h
        · exact AGx_AP (Or.inl h)
        · exact AGx_AP (Or.inr ⟨h.1, by omega⟩)
        · exact off_le (by omega)
      · have hx := h2.x h0 (numC_lt _ _ _) P1
        obtain ⟨rfl, -⟩ := id h2
        refine bl_gd (Or.inl rfl) (Or.inl ⟨rfl, LJ.mk (k' := k + 2) (fun a j h => ?_) (by omega) (Or.inr ⟨_, fs_n h0, hx⟩) hQ (fun z => by rw [fs_n h0] at z; cases z)⟩)
        rcases h with h | h | h
        · exact AGx_AP (Or.inl h)
        · exact AGx_AP (Or.inr ⟨h.1, by omega⟩)
        · exact off_le (by omega)
  exact ⟨r, μ', ν', e, e', hJ⟩
theorem lj_thing (T : Toks b N t K) (hT : TkOk t) (hy : y = 2 ∨ y = 37) (hr : μ.2.2 30 3 = y) (hTc : CT μ t K k) (hR : RS b N t K ν none k) (H : JB μ y ν c D L) (hs : (t k).1 = 2) (hn : c 2 < 8) : ∃ r μ' ν', f_X5_readLine 30 μ = some (r, μ') ∧ f_X11_line_j65 181 (nI 2) ν = some ((), ν') ∧ LJ b N t K y μ ν k r μ' ν' := by
  have hf0 := H.2.2.1
  have hf2 := H.2.2.2.1
  have hm6 := H.1.2.2.1
  generalize hq1 : fnd (fun j => decide (μ.1 (y + 5) j = nI (t (k + 1)).2.2.1)) (c 2) = q1
  generalize hq2 : fnd (fun j => decide (μ.1 (y + 3) j = nI (t (k + 2)).2.2.1)) (c 0) = q2
  generalize hF : fs (fs (fs (fs none (nameC (t (k + 1)).1 q1) (k + 1)) (roomC (t (k + 2)).1 q2) (k + 2)) (numC (t (k + 3)).1 (t (k + 3)).2.2.1 5) (k + 3)) (numC (t (k + 4)).1 (t (k + 4)).2.2.1 9) (k + 4) = F
  obtain ⟨u, ν', e', hQ⟩ := line_thing T (fun j => (hT j).1) hR (by omega) hn hm6 (H.1.1 2 (by decide)).2 (H.1.1 0 (by decide)).2 (by rw [← hq1]; exact fnd_congr fun i hi => by rw [(hf2 i hi).1]) (by rw [← hq2]; exact fnd_congr fun i hi => by rw [hf0 i hi]) hF (fun ν1 h1 K1 e1 c1 => jG (ν := ν) T h1 K1 (fun a j => ⟨fun z => Or.inl z, fun z w => by omega⟩) (fun _ => e1) (P := fun ν2 => ν2.1 187 (8 + c 2) = nI (t (k + 1)).2.2.1 ∧ (∃ a, q2 = some a ∧ a < c 0 ∧ ν2.1 188 (8 + c 2) = nI a) ∧ (ν2.1 189 (8 + c 2) = nI (t (k + 3)).2.2.1 ∧ (t (k + 3)).2.2.1 ≤ 5) ∧ (ν2.1 190 (8 + c 2) = nI (t (k + 4)).2.2.1 ∧ (t (k + 4)).2.2.1 ≤ 9) ∧ ν2.1 183 9 = nI (c 2 + 1)) c1 (fun ν2 e h => by
    rw [e 187 _ (by omega), e 188 _ (by omega), e 189 _ (by omega), e 190 _ (by omega), e 183 _ (by omega)]; exact h))
  have hA : ∀ a j, (AGx a j ∨ (a = 181 ∧ j = 21) ∨ (187 ≤ a ∧ a ≤ 190 ∧ j = 8 + c 2) ∨ (a = 183 ∧ j = 9)) → AP a j := by
    intro a j h
    rcases h with h | h | h | h
    · exact AGx_AP (Or.inl h)
    · exact AGx_AP (Or.inr ⟨h.1, by omega⟩)
    · exact off_le (by omega)
    · exact off_le (by omega)
  obtain ⟨r, μ', e, hJ⟩ : Ok (f_X5_readLine 30 μ) (fun r μ' => LJ b N t K y μ ν k r μ' ν') := by
    refine cline hy hr T.1 T.2.2.2 (hT k).1 hTc H.cs H.c9 (fun z => by omega) (fun x μ' hx hz => ?_) (fun _ hm μ1 K1 T1 => ?_)
    · rcases hz with hz | hz
      · omega
      · rw [hs] at hz
        exact absurd hz.2.1 (nI_ge hn (by decide))
    · rw [hs]
      have hr1 : μ1.2.2 30 3 = y := by rw [K1.1]; exact hr
      unfold f_X5_readRest
      rw [if_neg (by decide), if_neg (by decide), if_pos (by decide), Ok_bd]
      refine (readThing_spec (q1 := q1) (q2 := q2) hy hr1 T.1 T.2.2.2 hT T1 hn hm6 (by rw [K1.2.1 _ _ (by omega)]; exact H.cs 2 (by decide)) (by rw [K1.2.1 _ _ (by omega)]; exact H.cs 0 (by decide)) (by rw [← hq1]; exact fnd_congr fun i hi => by rw [K1.2.1 _ _ (by omega)]) (by rw [← hq2]; exact fnd_congr fun i hi => by rw [K1.2.1 _ _ (by omega)])).mono ?_
      have P1 := P_AX1 (y := y) K1
      rintro r μ2 (⟨h0, rfl, T2, K2, e2, ⟨a, ea, ha, e3⟩, e4, e5⟩ | ⟨x, h0, h2⟩)
      · refine bl_gd (Or.inr rfl) (Or.inr ⟨rfl, by rw [K2.1, K1.1]; exact hr, ?_⟩)
        have c2 : μ2.1 (y + 1) 2 = nI (c 2) := by rw [K2.2.1 _ _ (by omega), K1.2.1 _ _ (by omega)]; exact H.cs 2 (by decide)
        rw [c2, nI_1]
        have K3 : Kx (fun a j => AX1 a j ∨ (a = 30 ∧ j = 4) ∨ ((a = y + 5 ∨ a = y + 8 ∨ a = y + 9 ∨ a = y + 10) ∧ j = c 2) ∨ (a = y + 1 ∧ j = 2)) BN μ (sI μ2 (y + 1) 2 (nI (c 2 + 1))) := ((K1.wide (fun a j h => by omega) (fun _ _ h => h)).trans (K2.wide (fun a j h => by omega) (fun _ _ h => h))).sI (by omega)
        refine LJ.mk (k' := k + 5) hA (by omega) (Or.inl ⟨hF.symm.trans h0, rfl, T2.up hy, K3.wide (fun a j h => by unfold PCc; omega) (fun _ _ h => h), ⟨by rw [K3.2.1 _ _ (by omega)], by rw [K3.2.1 _ _ (by omega)], by rw [K3.2.1 _ _ (by omega)]⟩⟩) hQ (fun _ _ h21 hP hν => ⟨_, D, L, H.thing hn (fun a j h1 h2 h3 h4 h5 => K3.2.1 _ _ (by omega)) (fun a j h1 h2 h3 => hν _ _ (by omega)) (by rw [sI_i, if_pos ⟨rfl, rfl⟩]) hP.2.2.2.2 ⟨?_, ?_, ?_, ?_⟩ h21⟩)
        · rw [sI_i, if_neg (by omega), hP.1]; exact e2
        · obtain ⟨a', ea', ha', e3'⟩ := hP.2.1
          rw [ea] at ea'
          cases ea'
          exact ⟨a, ha, by rw [sI_i, if_neg (by omega)]; exact e3, e3'⟩
        · exact ⟨_, by have := hP.2.2.1.2; omega, by rw [sI_i, if_neg (by omega)]; exact e4, hP.2.2.1.1⟩
        · exact ⟨_, by have := hP.2.2.2.1.2; omega, by rw [sI_i, if_neg (by omega)]; exact e5, hP.2.2.2.1.1⟩
      · have h2 := h2.tr P1
        obtain ⟨rfl, -⟩ := id h2
        exact bl_gd (Or.inl rfl) (Or.inl ⟨rfl, LJ.mk (k' := k + 5) hA (by omega) (Or.inr ⟨x, hF.symm.trans h0, h2⟩) hQ (fun z => by rw [← hF] at z; rw [show fs (fs (fs (fs none (nameC (t (k + 1)).1 q1) (k + 1)) (roomC (t (k + 2)).1 q2) (k + 2)) (numC (t (k + 3)).1 (t (k + 3)).2.2.1 5) (k + 3)) (numC (t (k + 4)).1 (t (k + 4)).2.2.1 9) (k + 4) = some x from h0] at z; cases z)⟩)
  exact ⟨r, μ', ν', e, e', hJ⟩
end LineK
