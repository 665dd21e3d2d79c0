/-! a text, both sides: the call -/
theorem sim_text (a : Int32) : Sim Rel (f_X10_text 0 a) (f_X11_text 181 a) := by
  rintro μ ν ⟨V, S, X, h, hV, hS, hX, C, M⟩
  have M0 := rm_th hV hX M
  have c10 := C.2.2.2.2.2.2.2.2.2.1
  rw [tc_eq, tx_eq]
  simp only [vl, Nat.reduceAdd]
  generalize sI ν 181 0 0 = ν0 at M0 ⊢
  have m7 := M0.2.2.2.2.2.2.1
  by_cases a0 : a < 0
  · rw [if_pos a0, if_pos a0]
    exact ⟨-2, μ, ν0, rfl, rfl, V, S, X, h, hV, hS, hX, C, M0⟩
  rw [if_neg a0, if_neg a0, c10.1, m7.1]
  by_cases a1 : ¬ a ≤ nI X.2.2.2.1.1
  · rw [if_neg a1, if_neg a1]
    exact ⟨-2, μ, ν0, rfl, rfl, V, S, X, h, hV, hS, hX, C, M0⟩
  have a1 : a ≤ nI X.2.2.2.1.1 := Decidable.not_not.mp a1
  rw [if_pos a1, if_pos a1]
  obtain ⟨N, hN31, rfl⟩ := nI_of a0
  have h700 : X.2.2.2.1.1 ≤ 700 := hX.2.2.2.1
  have hN : N ≤ X.2.2.2.1.1 := (nI_leI hN31 (by omega)).mp a1
  have hh := C.1
  obtain ⟨y, hy⟩ : ∃ y, y = 39 - h := ⟨_, rfl⟩
  have hy2 : y = 2 ∨ y = 37 := by omega
  obtain ⟨μ8, t, K, e8, K8, g01, T, hT, C8, cst, g30, g31⟩ := cread_begin hX C hy hN
  obtain ⟨ν8, e8', K8', g2, R8, g22, mst⟩ := mread_begin (ν := ν0) (by omega) (fun j hj => by
    have hu := nI_up (hX.2.2.2.2 j (by omega))
    refine ⟨hu.1, ?_⟩
    rw [m7.2 j (by omega)]
    exact hu.2) T
  have r8 : μ8.2.2 30 3 = y := by rw [K8.1, hy]; exact C.2.2.1
  obtain ⟨tC, z, tR, ν9, w1, w2, P1, P2, hE⟩ := lines_joint T hT hy2 K 0 0 fuel μ8 ν8 _ _ _ (by omega) (by have := T.1; unfold fuel; omega) (Nat.le_refl _) r8 C8 R8 (JB.start cst mst) (cst.1.trans g22.symm)
  obtain ⟨z1, μ9⟩ := z
  have w1 : lpn (fun (q : Int32 × fMem) => f_X5_read_L28 30 q.1 q.2) fuel ((0 : Int32), μ8) = some (tC, (z1, μ9)) := w1
  dsimp only at P1 hE
  rw [e8', w2, bd_some, e8, w1, bd_some]
  dsimp only
  have fC : ∀ a j, ¬ PCc y a → ¬ (a = 0 ∧ j = 1) → μ9.1 a j = μ.1 a j := fun a j h1 h2 => by rw [P1.2.1 _ _ h1, K8.2.1 _ _ (fun z => z.elim h1 h2)]
  have g01' : μ9.1 0 1 = 0 := by rw [P1.2.1 _ _ (by unfold PCc; omega)]; exact g01
  have rC : μ9.2.2 = μ.2.2 := by rw [P1.1, K8.1]
  have lC : ∀ a j, μ9.2.1 a j = μ.2.1 a j := fun a j => by rw [P1.2.2 _ _ id, K8.2.2 _ _ id]
  have fM : ∀ a j, ¬ AQ a j → ν9.1 a j = ν0.1 a j := fun a j h => by rw [P2.2.1 _ _ (fun q => h (Or.inl q)), K8'.2.1 _ _ h]
  have g2' : ν9.1 181 2 = 0 := by rw [P2.2.1 _ _ (by unfold AP; omega)]; exact g2
  have c13 := C.2.2.2.2.2.2.2.2.2.2.2.2
  have hE2 : ∀ j, 34 ≤ j → ¬ AQ 181 j := fun j hj => by unfold AQ AP; omega
  have mz := M0.2.2.1
  rcases hE with ⟨rfl, ⟨z28, z29⟩, ⟨c, D, L, H⟩, hl, q0, q1⟩ | ⟨x, hS', hc⟩
  · rw [if_pos rfl, gd_t (Or.inr rfl), bd_some, if_neg (by decide)]
    have mz9 : MZ ν9 := by
      unfold MZ at mz ⊢
      rw [fM _ _ (hE2 47 (by omega)), fM _ _ (hE2 48 (by omega)), fM _ _ (hE2 49 (by omega)), fM _ _ (hE2 50 (by omega))]
      exact mz
    obtain ⟨r', ν', e', rfl, hV', cH', M'⟩ := tend_ok z28 z29 g2' mz9 H (fun _ => 0)
    obtain ⟨r, μ', e, rfl, C'⟩ := cend hV' hh hy (by rw [rC]; exact C.2.1) (by rw [rC, hy]; exact C.2.2.1) cH' g01' (q0.trans g30) (q1.trans g31) (fun j hj => by rw [fC _ _ (by unfold PCc; omega) (by omega)]; exact c13 j hj) (fun _ => 0)
    rw [e, e', hl]
    exact ⟨_, _, _, rfl, rfl, _, _, _, y, hV', S0_SR hV', ⟨fun I (hI : none = some I) => (nomatch hI), ⟨Nat.zero_le _, fun p hp => absurd hp (List.not_mem_nil)⟩, ⟨Nat.zero_le _, Or.inl rfl, fun k hk => absurd hk (Nat.not_lt_zero _)⟩, Nat.zero_le _, fun j hj => absurd hj (Nat.not_lt_zero _)⟩, C', M'⟩
  · rw [tend_bad hS'.ne]
    obtain ⟨μe, ee, fe, re, le, ge0, ge1⟩ : ∃ μe, (if tC = 0 then gd (bl (1 : Int32)) (some ((1 : Int32), μ9)) else if tC = 1 then gd (bl (0 : Int32)) (some ((0 : Int32), μ9)) else bd (f_X5_fail 30 (1 : Int32) μ9) fun r30 μ29 => gd (bl r30) (some (r30, μ29))) = some (0, μe) ∧ (∀ a j, ¬ PCc y a → μe.1 a j = μ9.1 a j) ∧ μe.2.2 = μ9.2.2 ∧ μe.2.1 = μ9.2.1 ∧ μe.1 30 0 = nI x.1 ∧ μe.1 30 1 = nI (t x.2).2.1 := by
      rcases hc with ⟨rfl, h0, h1⟩ | ⟨k', rfl, rfl, T9⟩
      · exact ⟨μ9, by rw [if_neg (by decide), if_pos rfl, gd_t (Or.inl rfl)], fun _ _ _ => rfl, rfl, rfl, h0, h1⟩
      · refine ⟨sI (sI μ9 30 0 1) 30 1 (μ9.1 31 1), ?_, fun a j h => ?_, rfl, rfl, ?_, ?_⟩
        · rw [if_neg (by decide), if_neg (by decide)]
          unfold f_X5_fail
          simp only [vl, Nat.reduceAdd]
          rw [gd_t (Or.inl rfl), bd_some, gd_t (Or.inl rfl), sI_i, if_neg (by omega)]
        · have ha : ¬ a = 30 := fun q => h (Or.inl (by omega))
          rw [sI_i, if_neg (by omega), sI_i, if_neg (by omega)]
        · rw [sI_i, if_neg (by omega), sI_i, if_pos ⟨rfl, rfl⟩]; rfl
        · rw [sI_i, if_pos ⟨rfl, rfl⟩]; exact T9.2.2.2.2.1
    rw [ee, bd_some, if_pos rfl]
    obtain ⟨hx0, hx1, m28, m29⟩ := hS'
    rw [m28, m29]
    generalize hνe : sI (sI ν9 181 30 (nI x.1)) 181 31 (nI (t x.2).2.1) = νe
    have gM : ∀ a j, ¬ AQ a j → ¬ (a = 181 ∧ (j = 30 ∨ j = 31)) → νe.1 a j = ν0.1 a j := by
      intro a j h1 h2
      subst hνe
      rw [sI_i, if_neg (by omega), sI_i, if_neg (by omega)]
      exact fM a j h1
    have gM2 : νe.1 181 30 = nI x.1 ∧ νe.1 181 31 = nI (t x.2).2.1 ∧ νe.1 181 2 = 0 := by
      subst hνe
      refine ⟨?_, ?_, ?_⟩
      · rw [sI_i, if_neg (by omega), sI_i, if_pos ⟨rfl, rfl⟩]
      · rw [sI_i, if_pos ⟨rfl, rfl⟩]
      · rw [sI_i, if_neg (by omega), sI_i, if_neg (by omega)]; exact g2'
    have gC : ∀ a j, ¬ PCc y a → ¬ (a = 0 ∧ j = 1) → μe.1 a j = μ.1 a j := fun a j h1 h2 => by rw [fe a j h1, fC a j h1 h2]
    have gC' : ∀ a, 2 ≤ a → ¬ PCc y a → μe.1 a = μ.1 a := fun a h1 h2 => funext fun j => gC a j h2 (by omega)
    have gI : ∀ j, 34 ≤ j → νe.1 181 j = ν0.1 181 j := fun j hj => gM 181 j (hE2 j hj) (by omega)
    have gB : ∀ a j, 201 ≤ a → νe.1 a j = ν0.1 a j := fun a j ha => gM a j (by unfold AQ AP; omega) (by omega)
    have h8 : V.1 2 ≤ 8 := hV.2.2.1
    refine ⟨-1, μe, νe, rfl, rfl, V, S, (X.1, X.2.1, X.2.2.1, (0, fun _ => 0), (nI x.1, nI (t x.2).2.1)), h, hV, hS, ⟨hX.1, hX.2.1, hX.2.2.1, Nat.zero_le _, fun j hj => absurd hj (Nat.not_lt_zero _)⟩, ?_, ?_⟩
    · obtain ⟨h1, h2, h3, h4, h5, h6, h7, h8, h9, -, -, -, -⟩ := C
      refine ⟨h1, by rw [re, rC]; exact h2, by rw [re, rC]; exact h3, h4.of fun k a b => gC' k (by omega) (by unfold PCc; omega), h5.of fun k a b => gC' k (by omega) (by unfold PCc; omega), h6.of (gC' 122 (by omega) (by unfold PCc; omega)) (by rw [le]; exact funext fun j => lC 121 j), CI.ofs (gC 0 6 (by unfold PCc; omega) (by omega)) (fun k a b => gC' k (by omega) (by unfold PCc; omega)) h7, ⟨by rw [gC' 130 (by omega) (by unfold PCc; omega)]; exact h8.1, CTr.of (fun k a b => gC' k (by omega) (by unfold PCc; omega)) h8.2⟩, CN.of (fun k a b => gC' k (by omega) (by unfold PCc; omega)) h9, ⟨?_, fun j hj => absurd hj (Nat.not_lt_zero _)⟩, ge0, ge1, fun j hj => ?_⟩
      · rw [fe 0 1 (by unfold PCc; omega)]; exact g01'
      · rw [gC' 32 (by omega) (by unfold PCc; omega)]; exact c13 j hj
    · obtain ⟨h1, h2, -, h4, h5, h6, -, -, -⟩ := M0
      refine ⟨h1.of' hV (fun c j n a b e hj => gM c j (by unfold AQ AP; subst e; omega) (by omega)), h2.of h8 (fun c a b j hj => gB c _ (by omega)) (fun c a b j hj => gB c _ (by omega)) (gB _ _ (by omega)) (gB _ _ (by omega)), ?_, MI.of h8 (gI 45 (by omega)) (fun c j q => gB c j (by unfold Px at q; omega)) h4, ⟨by rw [gI 46 (by omega)]; exact h5.1, MUr.of h8 (fun c y' j a b q => gB c j (by unfold Px at q; omega)) hX.2.1.1 h5.2⟩, MN.of (fun j a b => gI j (by omega)) (fun c j a b => gB c j (by omega)) h6, ⟨gM2.2.2, fun j hj => absurd hj (Nat.not_lt_zero _)⟩, gM2.1, gM2.2.1⟩
      unfold MZ at mz ⊢
      rw [gI 47 (by omega), gI 48 (by omega), gI 49 (by omega), gI 50 (by omega)]
      exact mz
