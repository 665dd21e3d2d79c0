/-! loops of the pure functions, by an invariant -/
theorem lpI {σ : Type} {b : σ → Option (Nat × σ)} {I : Nat → σ → Prop} {Post : Nat → σ → Prop} (N : Nat) (hs : ∀ i s, i < N → I i s → (∃ s', b s = some (0, s') ∧ I (i + 1) s') ∨ ∃ t s', b s = some (t + 1, s') ∧ Post t s') (he : ∀ s, I N s → ∃ t s', b s = some (t + 1, s') ∧ Post t s') :
    ∀ (n i : Nat) (s : σ), i ≤ N → N - i < n → I i s → ∃ t s', lpn b n s = some (t, s') ∧ Post t s'
  | 0, _, _, _, h, _ => by omega
  | n + 1, i, s, hi, hn, h => by
    unfold lpn
    rcases Nat.lt_or_ge i N with q | q
    · rcases hs i s q h with ⟨s', e, h'⟩ | ⟨t, s', e, h'⟩
      · rw [e]
        exact lpI N hs he n (i + 1) s' (by omega) (by omega) h'
      · rw [e]
        exact ⟨t, s', rfl, h'⟩
    · have : i = N := by omega
      subst this
      obtain ⟨t, s', e, h'⟩ := he s h
      rw [e]
      exact ⟨t, s', rfl, h'⟩
/-- the same, from 0 on, with the fuel that all have -/
theorem lpF {σ : Type} {b : σ → Option (Nat × σ)} (I : Nat → σ → Prop) (Post : Nat → σ → Prop) (N : Nat) {s : σ} (hN : N < 5000) (h0 : I 0 s) (hs : ∀ i s, i < N → I i s → (∃ s', b s = some (0, s') ∧ I (i + 1) s') ∨ ∃ t s', b s = some (t + 1, s') ∧ Post t s') (he : ∀ s, I N s → ∃ t s', b s = some (t + 1, s') ∧ Post t s') : ∃ t s', lpn b fuel s = some (t, s') ∧ Post t s' :=
  lpI N hs he fuel 0 s (Nat.zero_le _) (by unfold fuel; omega) h0
theorem ixN {n N : Nat} (h : n < N) (hN : N < 2 ^ 31) : ixo (nI n) N := vp_in_nI h hN
theorem nIle {a b : Nat} (ha : a < 2 ^ 31) (hb : b < 2 ^ 31) : nI a ≤ nI b ↔ a ≤ b := nI_leI ha hb
theorem gd_f {α : Type} {c : Prop} [Decidable c] {x : Option α} (h : ¬ c) : gd c x = none := if_neg h
theorem sRow_at {μ : fMem} {k : Nat} {f : Nat → Int32} : (sRow μ k f).1 k = f := by simp [sRow]
theorem sRow_ne {μ : fMem} {k k' : Nat} {f : Nat → Int32} (h : k' ≠ k) : (sRow μ k f).1 k' = μ.1 k' := by simp [sRow, h]
def sRowL (μ : fMem) (k : Nat) (f : Nat → Int64) : fMem := (μ.1, (fun k' => if k' = k then f else μ.2.1 k'), μ.2.2)
theorem fill_spec (a : Nat) (v : Int32) (μ : fMem) {n : Nat} (hk : kd a = (0, n)) (hn : n < 5000) : f_J7_fill_53178 a v μ = some ((), sRow μ a (fun j => if j < n then v else μ.1 a j)) := by
  have key : ∃ t s', lpn (fun (q : Int32 × fMem) => f_J7_fill_53178_L5 a v (Int32.ofNat (kd a).2) q.1 q.2) fuel ((0 : Int32), μ) = some (t, s') ∧ s'.2 = sRow μ a (fun j => if j < n then v else μ.1 a j) := by
    refine lpF (fun i (s : Int32 × fMem) => s.1 = nI i ∧ s.2 = sRow μ a (fun j => if j < i then v else μ.1 a j)) (fun _ (s : Int32 × fMem) => s.2 = sRow μ a (fun j => if j < n then v else μ.1 a j)) n hn ⟨rfl, ?_⟩ (fun i s hi h => Or.inl ?_) (fun s h => ?_)
    · show μ = _
      unfold sRow
      refine Prod.ext ?_ rfl
      funext k
      by_cases h : k = a
      · subst h; simp
      · simp [h]
    · obtain ⟨h1, h2⟩ := h
      refine ⟨(nI (i + 1), sRow μ a (fun j => if j < i + 1 then v else μ.1 a j)), ?_, rfl, rfl⟩
      unfold f_J7_fill_53178_L5
      rw [h1, h2, hk]
      have e1 : ¬ Int32.ofNat n ≤ nI i := nI_ge hi (by omega)
      rw [if_neg e1, gd_t (ixN hi (by omega)), nI_clamp (by omega)]
      unfold vl
      rw [nI_1]
      refine congrArg (fun q => some (0, (nI (i + 1), q))) ?_
      unfold sI sRow
      refine Prod.ext ?_ rfl
      funext k j
      by_cases hka : k = a
      · subst hka
        by_cases hj : j = i
        · subst hj; simp [fu]
        · have : j < i + 1 ↔ j < i := by omega
          simp [fu, hj, this]
      · simp [fu, hka]
    · obtain ⟨h1, h2⟩ := h
      refine ⟨0, (nI n, s.2), ?_, h2⟩
      unfold f_J7_fill_53178_L5
      rw [h1, hk]
      have e1 : Int32.ofNat n ≤ nI n := nI_le (Nat.le_refl n) (by omega)
      rw [if_pos e1]
  obtain ⟨t, s', e, h⟩ := key
  unfold f_J7_fill_53178 vl
  dsimp only
  rw [e, bd_some, h]
theorem fillL_spec (a : Nat) (v : Int64) (μ : fMem) {n : Nat} (hk : kd a = (2, n)) (hn : n < 5000) : f_J7_fill_d0a16 a v μ = some ((), sRowL μ a (fun j => if j < n then v else μ.2.1 a j)) := by
  have key : ∃ t s', lpn (fun (q : Int32 × fMem) => f_J7_fill_d0a16_L6 a v (Int32.ofNat (kd a).2) q.1 q.2) fuel ((0 : Int32), μ) = some (t, s') ∧ s'.2 = sRowL μ a (fun j => if j < n then v else μ.2.1 a j) := by
    refine lpF (fun i (s : Int32 × fMem) => s.1 = nI i ∧ s.2 = sRowL μ a (fun j => if j < i then v else μ.2.1 a j)) (fun _ (s : Int32 × fMem) => s.2 = sRowL μ a (fun j => if j < n then v else μ.2.1 a j)) n hn ⟨rfl, ?_⟩ (fun i s hi h => Or.inl ?_) (fun s h => ?_)
    · show μ = _
      unfold sRowL
      refine Prod.ext rfl (Prod.ext ?_ rfl)
      funext k
      by_cases h : k = a
      · subst h; simp
      · simp [h]
    · obtain ⟨h1, h2⟩ := h
      refine ⟨(nI (i + 1), sRowL μ a (fun j => if j < i + 1 then v else μ.2.1 a j)), ?_, rfl, rfl⟩
      unfold f_J7_fill_d0a16_L6
      rw [h1, h2, hk]
      have e1 : ¬ Int32.ofNat n ≤ nI i := nI_ge hi (by omega)
      rw [if_neg e1, gd_t (ixN hi (by omega)), nI_clamp (by omega)]
      unfold vl
      rw [nI_1]
      refine congrArg (fun q => some (0, (nI (i + 1), q))) ?_
      unfold sL sRowL
      refine Prod.ext rfl (Prod.ext ?_ rfl)
      funext k j
      by_cases hka : k = a
      · subst hka
        by_cases hj : j = i
        · subst hj; simp [fu]
        · have : j < i + 1 ↔ j < i := by omega
          simp [fu, hj, this]
      · simp [fu, hka]
    · obtain ⟨h1, h2⟩ := h
      refine ⟨0, (nI n, s.2), ?_, h2⟩
      unfold f_J7_fill_d0a16_L6
      rw [h1, hk]
      have e1 : Int32.ofNat n ≤ nI n := nI_le (Nat.le_refl n) (by omega)
      rw [if_pos e1]
  obtain ⟨t, s', e, h⟩ := key
  unfold f_J7_fill_d0a16 vl
  dsimp only
  rw [e, bd_some, h]
