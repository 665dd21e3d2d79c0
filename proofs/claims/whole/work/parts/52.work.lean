theorem nI_sub (a b : Nat) : nI (a + b) - nI b = nI a := by
  rw [← nI_add, Int32.add_sub_cancel]
theorem isNm_ex {s : Int32} (h : isNm s) : ∃ j, j < 7 ∧ s = nI (j + 13) := by
  obtain ⟨n, hn, rfl⟩ := nI_of2 (x := s) (M := 19) (n := 19) (by decide) (fun q => absurd (Int32.lt_of_le_of_lt h.1 q) (by decide)) h.2
  have h1 : (nI 13) ≤ nI n := h.1
  rw [nI_leI (by omega) (by omega)] at h1
  exact ⟨n - 13, by omega, by rw [show n - 13 + 13 = n by omega]⟩
theorem sg_fact : ∀ s ∈ signs, ¬ s = 21 ∧ ¬ isNm s ∧ ¬ s = 12 := by decide
/-- a law as the class keeps it -/
def CL (μ : fMem) (c : Nat) (L : List (Int32 × Int32)) : Prop := μ.1 c 1 = nI L.length ∧ ∀ i, i < L.length → L[i]? = some (μ.1 (c + 1) i, μ.1 (c + 2) i)
def evR (L : List (Int32 × Int32)) (nm : Nat → Int32) : Int64 := (ev L nm).getD MIN
theorem j214_in {c nc r i t : Nat} {v : Int64} {μ : fMem} (hv : inB v) (hr : r < 64) : f_X3_work_j214 c nc (nI (r + t)) (nI i) (nI t) v μ = some (0, (nI (r + 1), nI (i + 1), sL μ (c + 3) r v)) := by
  unfold f_X3_work_j214 vl
  simp only [lgp, lgnn]
  rw [if_neg (Int64.not_lt.mpr hv.1), if_pos hv.2, nI_sub, gd_t (ixN hr (by omega)), nI_clamp (by omega), nI_1, nI_1]
theorem j214_out {c nc : Nat} {sz k t : Int32} {v : Int64} {μ : fMem} (hv : ¬ inB v) : f_X3_work_j214 c nc sz k t v μ = some (3, (sz, k, μ)) := by
  unfold f_X3_work_j214 vl
  simp only [lgp, lgnn]
  by_cases h : LGT < v
  · rw [if_pos h]
  · rw [if_neg h, if_neg (fun q => hv ⟨Int64.not_lt.mp h, q⟩)]
theorem drop_step {α : Type} {L : List α} {i : Nat} {a : α} (h : L[i]? = some a) : L.drop i = a :: L.drop (i + 1) := by
  obtain ⟨hi, e⟩ := List.getElem?_eq_some_iff.mp h
  rw [List.drop_eq_getElem_cons hi, e]
theorem Stk_put {f : Nat → Int64} {r : List Int64} {v : Int64} (h : Stk f r) (hv : inB v) {c : Nat} {μ : fMem} (hf : μ.2.1 c = f) : Stk ((sL μ c r.length v).2.1 c) (v :: r) := by
  refine ⟨by rw [sL_l, if_pos ⟨rfl, rfl⟩], hv, h.congr fun j hj => ?_⟩
  rw [sL_l, if_neg (by omega), hf]
theorem work_spec {c : Nat} {μ : fMem} {L : List (Int32 × Int32)} {nm : Nat → Int32} (hL : CL μ c L) (hw : WL L) (hc : c + 3 ≠ 119) (hn : ∀ j, j < 7 → μ.2.1 119 j = (nm j).toInt64) :
    Ok (f_X3_work c 119 μ) (fun r μ' => r = evR L nm ∧ Kp [] [c + 3] μ μ') := by
  unfold f_X3_work
  rw [Ok_bd]
  obtain ⟨E, hE⟩ : ∃ E, evs nm L [] = E := ⟨_, rfl⟩
  have hlen : L.length ≤ 64 := hw.1
  refine Ok.mono (Q := fun u (s : Int32 × Int32 × fMem) => Kp [] [c + 3] μ s.2.2 ∧ ((u = 0 ∧ ∃ st, E = some st ∧ s.1 = nI st.length ∧ Stk (s.2.2.2.1 (c + 3)) st ∧ st.length ≤ 64) ∨ (u ≠ 0 ∧ E = none))) (Ok_lp L.length (fun i (s : Int32 × Int32 × fMem) => s.2.1 = nI i ∧ Kp [] [c + 3] μ s.2.2 ∧ ∃ st, s.1 = nI st.length ∧ Stk (s.2.2.2.1 (c + 3)) st ∧ E = evs nm (L.drop i) st ∧ (L = [] ∨ dp (L.drop i) st.length = some 1) ∧ st.length ≤ i) (by omega) ⟨rfl, Kp.rfl', [], rfl, trivial, hE.symm, hw.2.2, Nat.le_refl _⟩ ?_) ?_
  · rintro i ⟨sz, k, μ1⟩ hi ⟨hk, hK, st, hsz, hst, hev, hdp, hsi⟩
    dsimp only at hk hK hsz hst ⊢
    subst hk hsz
    unfold f_X3_work_L4
    rw [hK.i (List.not_mem_nil), hL.1]
    rcases Nat.lt_or_ge i L.length with q | q
    · rw [if_neg (nI_ge q (by omega)), Ok_gd]
      refine ⟨ixN (by omega) (by omega), ?_⟩
      rw [nI_clamp (by omega), hK.i (List.not_mem_nil)]
      have hg := hL.2 i q
      have hdr := drop_step hg
      generalize hs : μ.1 (c + 1) i = s at hg hdr ⊢
      have hgk : gk s := hw.2.1 _ (List.mem_of_getElem? hg)
      have hne : ¬ L = [] := by rintro rfl; simp at q
      have hdp := hdp.resolve_left hne
      rw [hdr] at hev hdp
      unfold evs st1 at hev
      unfold dp at hdp
      unfold tk at hdp
      dsimp only at hev hdp
      rw [Ok_vl]
      have fin : ∀ (r : List Int64) (v : Int64), inB v → r.length ≤ st.length → Stk (μ1.2.1 (c + 3)) r → E = evs nm (L.drop (i + 1)) (v :: r) → dp (L.drop (i + 1)) (r.length + 1) = some 1 → r.length ≤ i → ((0 = 0 ∧ i < L.length ∧ (nI (r.length + 1), nI (i + 1), sL μ1 (c + 3) r.length v).2.1 = nI (i + 1) ∧ Kp [] [c + 3] μ (nI (r.length + 1), nI (i + 1), sL μ1 (c + 3) r.length v).2.2 ∧ ∃ st', (nI (r.length + 1), nI (i + 1), sL μ1 (c + 3) r.length v).1 = nI st'.length ∧ Stk ((nI (r.length + 1), nI (i + 1), sL μ1 (c + 3) r.length v).2.2.2.1 (c + 3)) st' ∧ E = evs nm (L.drop (i + 1)) st' ∧ (L = [] ∨ dp (L.drop (i + 1)) st'.length = some 1) ∧ st'.length ≤ i + 1)) := by
        intro r v hv _ hr h1 h2 h3
        exact ⟨rfl, q, rfl, hK.sL (List.mem_singleton.mpr rfl), v :: r, rfl, Stk_put hr hv rfl, h1, Or.inr h2, by simp; omega⟩
      by_cases h21 : s = 21
      · subst h21
        rw [if_pos rfl] at hev
        rw [if_pos (Or.inl rfl), if_neg (by omega), Nat.sub_zero] at hdp
        rw [if_pos rfl]
        unfold f_X3_work_j41 f_X3_work_j57
        rw [show nI st.length - 0 = nI st.length from Int32.sub_zero _, if_neg (nI_pos (by omega)), if_pos (show nI st.length < 64 from nI_lt (b := 64) (by omega) (by omega)), if_pos rfl, Ok_gd]
        refine ⟨ixN (by omega) (by omega), ?_⟩
        rw [Ok_vl, nI_clamp (by omega), hK.i (List.not_mem_nil)]
        rw [show f_X3_work_j214 c 119 (nI st.length) (nI i) 0 = f_X3_work_j214 c 119 (nI (st.length + 0)) (nI i) (nI 0) from rfl, j214_in (inB_int _) (by omega), Ok_some]
        exact Or.inl (fin st _ (inB_int _) (Nat.le_refl _) hst hev hdp hsi)
      · rw [if_neg h21] at hev ⊢
        by_cases hnm : isNm s
        · rw [if_pos hnm] at hev
          rw [if_pos (Or.inr hnm), if_neg (by omega), Nat.sub_zero] at hdp
          rw [if_neg (Int32.not_lt.mpr hnm.1), if_neg (Int32.not_lt.mpr hnm.2)]
          unfold f_X3_work_j41 f_X3_work_j57 f_X3_work_j126
          obtain ⟨j, hj, rfl⟩ := isNm_ex hnm
          rw [show nI st.length - 0 = nI st.length from Int32.sub_zero _, if_neg (nI_pos (by omega)), if_pos (show nI st.length < 64 from nI_lt (b := 64) (by omega) (by omega)), if_neg h21, if_pos rfl]
          rw [show nI (j + 13) - 13 = nI j from nI_sub j 13, show (kd 119).2 = 7 by decide]
          rw [show nI (j + 13) - 13 = nI j from nI_sub j 13] at hev
          rw [if_neg (show ¬ Int32.ofNat 7 ≤ nI j from nI_ge hj (by omega)), Ok_gd]
          refine ⟨ixN hj (by omega), ?_⟩
          rw [nI_clamp (by omega), hK.l (by simp; omega), hn j hj]
          rw [nI_clamp (by omega)] at hev
          rw [show f_X3_work_j214 c 119 (nI st.length) (nI i) 0 = f_X3_work_j214 c 119 (nI (st.length + 0)) (nI i) (nI 0) from rfl, j214_in (inB_int _) (by omega), Ok_some]
          exact Or.inl (fin st _ (inB_int _) (Nat.le_refl _) hst hev hdp hsi)
        · rw [if_neg hnm] at hev
          rw [if_neg (not_or.mpr ⟨h21, hnm⟩)] at hdp
          have to45 : (if s < 13 then f_X3_work_j45 c 119 (nI st.length) (nI i) s μ1 else if 19 < s then f_X3_work_j45 c 119 (nI st.length) (nI i) s μ1 else f_X3_work_j41 c 119 (nI st.length) (nI i) s μ1) = f_X3_work_j45 c 119 (nI st.length) (nI i) s μ1 := by
            by_cases a1 : s < 13
            · rw [if_pos a1]
            · rw [if_neg a1]
              by_cases a2 : 19 < s
              · rw [if_pos a2]
              · exact absurd ⟨Int32.not_lt.mp a1, Int32.not_lt.mp a2⟩ hnm
          rw [to45]
          unfold f_X3_work_j45
          by_cases h12 : s = 12
          · subst h12
            rw [if_pos rfl] at hev hdp ⊢
            cases st with
            | nil => simp at hdp
            | cons a r =>
              rw [if_neg (by simp)] at hdp
              unfold f_X3_work_j57 f_X3_work_j155
              simp only [List.length_cons, Nat.add_sub_cancel] at hdp hsi ⊢
              rw [if_neg (show ¬ nI (r.length + 1) < 1 from nI_nlt (b := 1) (by omega) (by omega)), if_pos (show nI (r.length + 1) - 1 < 64 by rw [show nI (r.length + 1) - 1 = nI r.length from nI_sub _ 1]; exact nI_lt (b := 64) (by omega) (by omega)), if_neg (by decide), if_neg (by decide), if_pos trivial, Ok_gd]
              rw [show nI (r.length + 1) - 1 = nI r.length from nI_sub _ 1, nI_clamp (by omega), hst.1]
              refine ⟨ixN (by omega) (by omega), ?_⟩
              simp only [lgz]
              dsimp only at hev
              rw [show f_X3_work_j214 c 119 (nI (r.length + 1)) (nI i) 1 = f_X3_work_j214 c 119 (nI (r.length + 1)) (nI i) (nI 1) from rfl]
              by_cases ha : a = 0
              · rw [if_pos ha] at hev ⊢
                rw [j214_in inB_1 (by omega), Ok_some]
                exact Or.inl (fin r _ inB_1 (by simp) hst.2.2 hev hdp (by omega))
              · rw [if_neg ha] at hev ⊢
                rw [j214_in inB_0 (by omega), Ok_some]
                exact Or.inl (fin r _ inB_0 (by simp) hst.2.2 hev hdp (by omega))
          · rw [if_neg h12] at hev hdp ⊢
            have hsg : s ∈ signs := by
              rcases hgk with a | a | a | a
              · exact absurd a h21
              · exact absurd a hnm
              · exact absurd a h12
              · exact a
            cases st with
            | nil => simp at hdp
            | cons b r =>
              cases r with
              | nil => simp at hdp
              | cons a r =>
                rw [if_neg (by simp)] at hdp
                unfold f_X3_work_j57
                simp only [List.length_cons, Nat.add_sub_cancel, show r.length + 1 + 1 - 2 + 1 = r.length + 1 by omega, show r.length + 1 + 1 = r.length + 2 by omega] at hdp hsi ⊢
                have e2 : nI (r.length + 2) - 2 = nI r.length := nI_sub _ 2
                have e1 : nI (r.length + 2) - 1 = nI (r.length + 1) := nI_sub (r.length + 1) 1
                rw [if_neg (show ¬ nI (r.length + 2) < 2 from nI_nlt (b := 2) (by omega) (by omega)), if_pos (show nI (r.length + 2) - 2 < 64 by rw [e2]; exact nI_lt (b := 64) (by omega) (by omega)), if_neg h21, if_neg (show ¬ (2 : Int32) = 0 by decide), if_neg (show ¬ (2 : Int32) = 1 by decide), e1, e2]
                have i1 : ixo (nI r.length) 64 := ixN (by omega) (by omega)
                have i2 : ixo (nI (r.length + 1)) 64 := ixN (by omega) (by omega)
                simp only [gd_t i1, gd_t i2, nI_clamp (show r.length < 2 ^ 31 by omega), nI_clamp (show r.length + 1 < 2 ^ 31 by omega), hst.2.2.1, show μ1.2.1 (c + 3) (r.length + 1) = b from hst.1, times_spec]
                have hjj : ∀ h35 : ¬ s = 35, f_X3_join s a b μ1 = some (jR s a b, μ1) := fun h35 => join_spec a b μ1 hsg h35
                have goal : Ok (f_X3_work_j214 c 119 (nI (r.length + 2)) (nI i) 2 (jR s a b) μ1) (fun t s' => (t = 0 ∧ i < L.length ∧ s'.2.1 = nI (i + 1) ∧ Kp [] [c + 3] μ s'.2.2 ∧ ∃ st, s'.1 = nI st.length ∧ Stk (s'.2.2.2.1 (c + 3)) st ∧ E = evs nm (L.drop (i + 1)) st ∧ (L = [] ∨ dp (L.drop (i + 1)) st.length = some 1) ∧ st.length ≤ i + 1) ∨ ∃ u, t = u + 1 ∧ Kp [] [c + 3] μ s'.2.2 ∧ ((u = 0 ∧ ∃ st, E = some st ∧ s'.1 = nI st.length ∧ Stk (s'.2.2.2.1 (c + 3)) st ∧ st.length ≤ 64) ∨ (u ≠ 0 ∧ E = none))) := by
                  dsimp only at hev
                  unfold jR
                  cases hj : jn s a b with
                  | none =>
                    rw [hj] at hev
                    rw [Option.getD_none, j214_out (by decide), Ok_some]
                    exact Or.inr ⟨2, rfl, hK, Or.inr ⟨by decide, hev⟩⟩
                  | some v =>
                    rw [hj] at hev
                    dsimp only at hev
                    rw [Option.getD_some]
                    by_cases hv : inB v
                    · rw [if_pos hv] at hev
                      rw [show f_X3_work_j214 c 119 (nI (r.length + 2)) (nI i) 2 = f_X3_work_j214 c 119 (nI (r.length + 2)) (nI i) (nI 2) from rfl, j214_in hv (by omega), Ok_some]
                      exact Or.inl (fin r v hv (by simp only [List.length_cons]; omega) hst.2.2.2.2 hev hdp (by omega))
                    · rw [if_neg hv] at hev
                      rw [j214_out hv, Ok_some]
                      exact Or.inr ⟨2, rfl, hK, Or.inr ⟨by decide, hev⟩⟩
                by_cases h35 : s = 35
                · subst h35
                  rw [if_pos rfl, bd_some]
                  exact goal
                · rw [if_neg h35, hjj h35, bd_some]
                  exact goal
    · rw [if_pos (nI_le q (by omega)), Ok_some]
      have e : L.drop i = [] := List.drop_eq_nil_of_le q
      rw [e] at hev
      exact Or.inr ⟨0, rfl, hK, Or.inl ⟨rfl, st, hev, rfl, hst, by omega⟩⟩
  · rintro u ⟨sz, k, μ1⟩ ⟨hK, h⟩
    dsimp only at hK h ⊢
    unfold evR ev
    rw [hE]
    rcases h with ⟨rfl, st, he, hsz, hst, h64⟩ | ⟨hu, he⟩
    · rw [he, if_pos rfl, hsz]
      have e1 : nI st.length = 1 ↔ st.length = 1 := nI_eq (a := st.length) (b := 1) (by omega) (by omega)
      by_cases h1 : st.length = 1
      · rw [if_pos (e1.mpr h1), Ok_some]
        match st, h1, hst with
        | [v], _, hst => exact ⟨hst.1, hK⟩
      · rw [if_neg (fun q => h1 (e1.mp q)), Ok_some]
        refine ⟨?_, hK⟩
        match st, h1 with
        | [], _ => rfl
        | [v], h1 => exact absurd rfl h1
        | _ :: _ :: _, _ => rfl
    · rw [he, if_neg hu]
      by_cases h1 : u = 1
      · rw [if_pos h1, Ok_some]; exact ⟨rfl, hK⟩
      · rw [if_neg h1, Ok_some]; exact ⟨rfl, hK⟩
