/-! laws, both beside each other; any line -/
section LineK3
variable {b : Nat → Nat} {N : Nat} {t : TQ} {K k : Nat} {μ ν : fMem} {y : Nat} {c : Nat → Nat} {D : Nat → Nat → Bool} {L : Nat → List (Int32 × Int32)}
theorem end_stp {k' : Nat} {pend : List Nat} {om : List (Int32 × Int32)} {kn' : Nat} (n : NX t 1 k' pend) : stp t (true, k', pend, om, kn', 0) = .inl (if (t k').1 = 24 then 0 else 1) := by
  show stT t k' pend om kn' 0 = _
  unfold stT
  by_cases c24 : (t k').1 = 24
  · rw [if_pos ⟨c24, rfl⟩, if_pos c24]
  · rw [if_neg (fun z => c24 z.1), if_neg c24]
    by_cases c26 : (t k').1 = 26
    · rw [if_pos c26, if_neg (by omega)]
    · rw [if_neg c26]
      by_cases z : rk (t k').1 = 0 ∨ (t k').1 = 12
      · rw [if_pos z]
      · rw [if_neg z]
        rcases n with n | n | n
        · omega
        · omega
        · rw [if_pos ⟨n.1, n.2 _⟩]
theorem lj_law (T : Toks b N t K) (hT : TkOk t) (hy : y = 2 ∨ y = 37) (hr : μ.2.2 30 3 = y) (hTc : CT μ t K k) (hR : RS b N t K ν none k) (H : JB μ y ν c D L) (hs : (t k).1 = 6) : ∃ r μ' ν', f_X5_readLine 30 μ = some (r, μ') ∧ f_X11_line_j65 181 (nI 6) ν = some ((), ν') ∧ LJ b N t K y μ ν k r μ' ν' := by
  have h36 : ∀ j, (t j).1 ≤ 36 := fun j => (hT j).1
  have hkn := H.1.2.2.2.2.2.2.2
  have jt := H.2.1.2
  have jl := H.2.2.2.2.2.2.2.1
  have I0 : ∀ k0, Iv (c 6) (false, k0, [], [], c 6, 0) := fun k0 => ⟨rfl, hkn, rfl, Nat.zero_le _, fun s hs => absurd hs (List.not_mem_nil), fun s hs => absurd hs (List.not_mem_nil), rfl⟩
  have hAW : ∀ a j, AWx (c 6) a j → AP a j := by
    intro a j h
    rcases h with h | h | h | h | h
    · exact AGx_AP (Or.inl h)
    · exact AGx_AP (Or.inr ⟨h.1, by omega⟩)
    · exact off_le (by omega)
    · exact off_le (by omega)
    · exact off_le (by omega)
  obtain ⟨u, ν', e', KA, hQ⟩ : Ok (f_X11_line_j65 181 (nI 6) ν) (fun _ ν' => Kx AP BN ν ν' ∧ ((¬ (7 ≤ (t (k + 1)).1 ∧ (t (k + 1)).1 ≤ 9) ∧ RS b N t K ν' (some (1, k + 1)) 0) ∨ ∃ l, l < 3 ∧ (t (k + 1)).1 = 7 + l ∧ ((Tb (ν.1 181 21) (16 + l) ∧ RS b N t K ν' (some (3, k + 1)) 0) ∨ (¬ Tb (ν.1 181 21) (16 + l) ∧ ((∃ x d, Rch t (false, k + 2, [], [], c 6, 0) x ∧ stp t x = .inl d ∧ ¬ d = 0 ∧ RS b N t K ν' (some (d, x.2.1)) 0) ∨ ∃ k' pend om kn', Rch t (false, k + 2, [], [], c 6, 0) (true, k', pend, om, kn', 0) ∧ (∀ p ∈ pend, 1 ≤ rk p) ∧ NX t 1 k' pend ∧ ((¬ (t k').1 = 24 ∧ RS b N t K ν' (some (1, k')) 0) ∨ ((t k').1 = 24 ∧ RS b N t K ν' none (k' + 1) ∧ ν'.1 181 22 = ν.1 181 22 + 1 ∧ (∀ a j, (183 ≤ a ∧ a ≤ 200) ∨ (a = 181 ∧ j = 32) → ¬ (a = 183 ∧ j = 13) → ¬ ((a = 199 ∨ a = 200) ∧ 64 + c 6 ≤ j) → ¬ ((a = 197 ∨ a = 198) ∧ j = 3 + l) → ν'.1 a j = ν.1 a j) ∧ ν'.1 181 21 = ((ν.1 181 21 ||| shl 1 (nI 6)) ||| shl 1 (nI (16 + l))) ∧ ν'.1 181 33 = nI kn' ∧ ν'.1 183 13 = nI (c 6 + (om ++ pend.map kno).length) ∧ ν'.1 197 (3 + l) = nI (c 6) ∧ ν'.1 198 (3 + l) = ν'.1 183 13 ∧ ∀ i, i < (om ++ pend.map kno).length → ∃ p, (om ++ pend.map kno)[i]? = some p ∧ ν'.1 199 (64 + c 6 + i) = (cdm p).1 ∧ ν'.1 200 (64 + c 6 + i) = (cdm p).2))))))) := by
    refine line_law T h36 hR (by omega) hkn H.1.2.1.2.1 H.1.2.1.2.2.1 H.1.2.1.2.2.2 (fun ν1 F k' h1 K1 ho => ?_)
    refine (j415_spec T h1).mono ?_
    rintro - ν2 ⟨K2, h2⟩
    have KA : Kx AP BN ν ν2 := (K1.wide (fun a j h => hAW a j h) (fun _ _ h => h)).trans (K2.wide (fun a j h => h.elim (fun z => AGx_AP (Or.inl z)) (fun z => AGx_AP (Or.inr ⟨z.1, by omega⟩))) (fun _ _ h => h))
    refine ⟨KA, ?_⟩
    have bad : ∀ x, F = some x → RS b N t K ν2 (some x) 0 := by
      intro x hx
      rcases h2 with ⟨x', hx', hS⟩ | ⟨hx', -⟩ | ⟨hx', -⟩
      · rw [hx] at hx'; cases hx'; exact hS
      · rw [hx] at hx'; cases hx'
      · rw [hx] at hx'; cases hx'
    rcases ho with ⟨hb, hF⟩ | ⟨l, hl, hls, ⟨ht, hF⟩ | ⟨ht, ⟨x, d, R, e, hd, hF⟩ | ⟨hF, K1', e21, pend, om, kn', R, p, M, n, g7, g8⟩⟩⟩
    · exact Or.inl ⟨hb, bad _ hF⟩
    · exact Or.inr ⟨l, hl, hls, Or.inl ⟨ht, bad _ hF⟩⟩
    · exact Or.inr ⟨l, hl, hls, Or.inr ⟨ht, Or.inl ⟨x, d, R, e, hd, bad _ hF⟩⟩⟩
    · refine Or.inr ⟨l, hl, hls, Or.inr ⟨ht, Or.inr ⟨k', pend, om, kn', R, p, n, ?_⟩⟩⟩
      rcases h2 with ⟨x', hx', hS⟩ | ⟨-, h24, hS⟩ | ⟨-, h24, hS, e22⟩
      · rw [hF] at hx'; cases hx'
      · exact Or.inl ⟨h24, hS⟩
      · have f : ∀ a j, ¬ (a = 181 ∧ j < 30) → ν2.1 a j = ν1.1 a j := fun a j h => K2.2.1 a j (by omega)
        obtain ⟨m1, m2, m3, m4, m5, m6, m7, m8⟩ := M
        refine Or.inr ⟨h24, hS, by rw [e22, K1.2.1 _ _ (by omega)], fun a j q1 q2 q3 q4 => ?_, ?_, ?_, ?_, ?_, ?_, fun i hi => ?_⟩
        · rw [f _ _ (by omega)]
          by_cases z32 : a = 181
          · have zj : j = 32 := by omega
            rw [z32, zj, m6, H.1.2.1.2.2.2]; rfl
          · exact K1'.2.1 _ _ (by omega)
        · rw [K2.2.1 _ _ (by omega)]; exact e21
        · rw [f _ _ (by omega)]; exact m5
        · rw [f _ _ (by omega)]; exact m7
        · rw [f _ _ (by omega)]; exact g7
        · rw [f _ _ (by omega), f 183 _ (by omega)]; exact g8
        · obtain ⟨p', p1, p2, p3⟩ := m8 i hi
          exact ⟨p', p1, by rw [f _ _ (by omega)]; exact p2, by rw [f _ _ (by omega)]; exact p3⟩
  have mkF : ∀ {r : Int32} {μ' : fMem} {x : Nat × Nat}, CFx y μ μ' t x r → RS b N t K ν' (some x) 0 → bl r ∧ LJ b N t K y μ ν k r μ' ν' := by
    intro r μ' x hc hS
    obtain ⟨h0, K2, e0, e1, -, -⟩ := hc
    exact ⟨Or.inl h0, K2, KA, Or.inl ⟨x, h0, e0, e1, hS⟩⟩
  obtain ⟨r, μ', e, hJ⟩ : Ok (f_X5_readLine 30 μ) (fun r μ' => LJ b N t K y μ ν k r μ' ν') := by
    refine cline hy hr T.1 T.2.2.2 (hT k).1 hTc H.cs H.c9 (fun _ => ?_) (fun x μ' hx hz => ?_) (fun z => by omega)
    · refine (readLaw_spec hy hr T.1 T.2.2.2 hT hTc (by omega) hkn H.1.2.1.1 (fun l hl h0 => ?_)).mono ?_
      · have h1 := (jt l hl).1
        by_cases z : L l = []
        · have := (jl l hl).2.1
          rw [z] at this
          exact this
        · rw [if_neg z, h0] at h1
          exact absurd h1 (by decide)
      · rintro r μ2 hC
        rcases hC with ⟨hb, hC⟩ | ⟨l, hl, hls, hC⟩
        · rcases hQ with ⟨-, hS⟩ | ⟨l, hl, hls, -⟩
          · exact mkF hC hS
          · omega
        · rcases hQ with ⟨hb, -⟩ | ⟨l', hl', hls', hQ⟩
          · omega
          · have ell : l' = l := by omega
            subst ell
            have tt : Tb (ν.1 181 21) (16 + l') ↔ ¬ μ.1 (y + 16 + 4 * l') 0 = 0 := by
              rw [(jt l' hl).2, (jt l' hl).1]
              by_cases z : L l' = []
              · rw [if_pos z]; exact ⟨fun q => absurd z q, fun q => absurd rfl q⟩
              · rw [if_neg z]; exact ⟨fun _ => by decide, fun _ => z⟩
            rcases hC with ⟨h1, hC⟩ | ⟨h1, x, d, R, e, hC⟩
            · rcases hQ with ⟨-, hS⟩ | ⟨h2, -⟩
              · exact mkF hC hS
              · exact absurd (tt.mpr h1) h2
            · rcases hQ with ⟨h2, -⟩ | ⟨h2, hQ⟩
              · exact absurd h1 (tt.mp h2)
              · rcases hQ with ⟨x', d', R', e2, hd', hS⟩ | ⟨k', pend, om, kn', R', p, n, hQ⟩
                · have exx := R.det R' e e2
                  subst exx
                  rw [e] at e2
                  cases e2
                  rcases hC with ⟨rfl, -⟩ | ⟨-, x'', rfl, hC⟩
                  · exact absurd rfl hd'
                  · exact mkF hC hS
                · have e2 := end_stp (om := om) (kn' := kn') n
                  have exx := R.det R' e e2
                  subst exx
                  rw [e] at e2
                  rcases hQ with ⟨h24, hS⟩ | ⟨h24, hS, e22, f2, g4, g3, g2, g7, g8, g9⟩
                  · rw [if_neg h24] at e2
                    cases e2
                    rcases hC with ⟨q, -⟩ | ⟨-, x'', rfl, hC⟩
                    · cases q
                    · exact mkF hC hS
                  · rw [if_pos h24] at e2
                    cases e2
                    rcases hC with ⟨-, rfl, T2, K2, t1, E2⟩ | ⟨q, -⟩
                    · have I2 : Iv (c 6) (true, k', pend, om, kn', 0) := (I0 (k + 2)).rch h36 R'
                      have ep : popR 1 pend om = ([], om ++ pend.map kno) := by
                        have := pop_app (r := 1) (st := []) (pend := pend) (o := om) p (by show 0 < 1; omega)
                        rw [List.append_nil] at this
                        exact this
                      have I3 := Iv.pop (r := 1) (by omega) I2
                      rw [ep] at I3
                      dsimp only at E2
                      rw [ep] at E2
                      obtain ⟨i1, i2, i3, i4, i5, i6, i7⟩ := I3
                      dsimp only at i1 i2 i6 i7 E2
                      obtain ⟨b1, b2, b3, b4, b5, b6⟩ := E2
                      have i1 : c 6 + (om ++ pend.map kno).length + 0 = kn' := i1
                      have i7 : dp (om ++ pend.map kno) 0 = some 1 := i7
                      have mono := R'.mono.1
                      dsimp only at mono
                      have hLl : L l' = [] := by
                        by_cases z : L l' = []
                        · exact z
                        · have := (jt l' hl).1
                          rw [if_neg z, h1] at this
                          exact absurd this (by decide)
                      refine ⟨Or.inr rfl, K2.wide (fun a j h => by unfold PCc; omega) (fun _ _ h => h), KA, Or.inr ⟨k', rfl, by omega, T2, ⟨by rw [K2.2.1 _ _ (by omega)], by rw [K2.2.1 _ _ (by omega)], by rw [K2.2.1 _ _ (by omega)]⟩, Or.inr ⟨h24, hS, e22, _, D, _, H.law hl hLl (fun z => by rw [z] at i7; cases i7) ⟨by omega, i6, Or.inr i7⟩ i1.symm i2 (fun a j q1 q2 q3 q4 q5 => K2.2.1 _ _ (by omega)) f2 b6 (by rw [g2]; congr 1) g3 t1 b4 b5 g7 (by rw [g8, g2]; congr 1) g9 g4⟩⟩⟩
                    · exact absurd rfl q
    · rcases hz with hz | hz <;> omega
  exact ⟨r, μ', ν', e, e', hJ⟩
theorem line_joint (T : Toks b N t K) (hT : TkOk t) (hy : y = 2 ∨ y = 37) (hr : μ.2.2 30 3 = y) (hTc : CT μ t K k) (hR : RS b N t K ν none k) (H : JB μ y ν c D L) (h22 : ¬ (t k).1 = 22) : ∃ r μ' ν', f_X5_readLine 30 μ = some (r, μ') ∧ f_X11_line 181 ν = some ((), ν') ∧ LJ b N t K y μ ν k r μ' ν' := by
  have jb := H.1.2.2
  have j5 := H.2.1.1
  rcases line_first (fun w hw => (H.1.1 w hw).2) ⟨jb.1, jb.2.1, jb.2.2.1, jb.2.2.2.1, jb.2.2.2.2.1⟩ (hT k).1 hR with ⟨x, ν', e', hS, K1, hx⟩ | ⟨e', h6, hfull, h5⟩
  · have KA : Kx AP BN ν ν' := K1.wide (fun a j h => AGx_AP (Or.inl h)) (fun _ _ h => h)
    obtain ⟨r, μ', e, hJ⟩ : Ok (f_X5_readLine 30 μ) (fun r μ' => LJ b N t K y μ ν k r μ' ν') := by
      refine cline hy hr T.1 T.2.2.2 (hT k).1 hTc H.cs H.c9 (fun z => ?_) (fun x' μ' hc hz => ?_) (fun z1 z2 => ?_)
      · rcases hx with hx | hx | hx <;> omega
      · obtain ⟨h0, K2, e0, e1, -, -⟩ := hc
        have exx : x' = x := by
          rcases hx with ⟨q, rfl⟩ | ⟨q, q2, rfl⟩ | ⟨q, q2, rfl⟩
          · rcases hz with ⟨z, rfl⟩ | ⟨z, -, rfl⟩
            · rfl
            · omega
          · rcases hz with ⟨z, rfl⟩ | ⟨z, -, rfl⟩
            · omega
            · rw [if_neg (by omega)]
          · rcases hz with ⟨z, rfl⟩ | ⟨z, -, rfl⟩
            · omega
            · rw [if_pos q]
        subst exx
        exact ⟨K2, KA, Or.inl ⟨x', rfl, e0, e1, hS 0⟩⟩
      · exfalso
        rcases hx with ⟨q, -⟩ | ⟨q, q2, -⟩ | ⟨q, q2, -⟩
        · omega
        · exact z2 q2
        · have := j5.2.2.mp q2
          rw [q, this] at z2
          exact z2 (by decide)
    exact ⟨r, μ', ν', e, e', hJ⟩
  · rw [e']
    have lt : ∀ w m : Nat, w < 5 → mostT.getD w 0 = nI m → (t k).1 = w → c w ≤ m → m < 100 → c w < m := by
      intro w m h1 h2 h3 h4 h7
      refine Nat.lt_of_le_of_ne h4 (fun z => hfull ⟨by omega, ?_⟩)
      rw [h3, h2, z]
      exact nI_le (Nat.le_refl _) (by omega)
    rcases (show (t k).1 = 0 ∨ (t k).1 = 1 ∨ (t k).1 = 2 ∨ (t k).1 = 3 ∨ (t k).1 = 4 ∨ (t k).1 = 5 ∨ (t k).1 = 6 by omega) with z | z | z | z | z | z | z
    · rw [z]; exact lj_room T hT hy hr hTc hR H z (lt 0 6 (by decide) (by decide) z jb.1 (by decide))
    · rw [z]; exact lj_door T hT hy hr hTc hR H z (lt 1 9 (by decide) (by decide) z jb.2.1 (by decide))
    · rw [z]; exact lj_thing T hT hy hr hTc hR H z (lt 2 8 (by decide) (by decide) z jb.2.2.1 (by decide))
    · rw [z]; exact lj_dead T hT hy hr hTc hR H z (lt 3 6 (by decide) (by decide) z jb.2.2.2.1 (by decide))
    · rw [z]; exact lj_glass T hT hy hr hTc hR H z (lt 4 9 (by decide) (by decide) z jb.2.2.2.2.1 (by decide))
    · rw [z]
      refine lj_seed T hT hy hr hTc hR H z ?_
      have q : ¬ c 5 = 1 := fun w => h5 ⟨z, j5.2.2.mpr w⟩
      have := j5.2.1
      omega
    · rw [z]; exact lj_law T hT hy hr hTc hR H z
end LineK3
