/-! the reference's laws -/
def Kx (A B : Nat → Nat → Prop) (ν ν' : fMem) : Prop := ν'.2.2 = ν.2.2 ∧ (∀ k j, ¬ A k j → ν'.1 k j = ν.1 k j) ∧ ∀ k j, ¬ B k j → ν'.2.1 k j = ν.2.1 k j
theorem Kx.rfl' {A B : Nat → Nat → Prop} {μ : fMem} : Kx A B μ μ := ⟨rfl, fun _ _ _ => rfl, fun _ _ _ => rfl⟩
theorem Kx.trans {A B : Nat → Nat → Prop} {μ μ1 μ2 : fMem} (h : Kx A B μ μ1) (h2 : Kx A B μ1 μ2) : Kx A B μ μ2 := ⟨h2.1.trans h.1, fun k j q => (h2.2.1 k j q).trans (h.2.1 k j q), fun k j q => (h2.2.2 k j q).trans (h.2.2 k j q)⟩
theorem Kx.wide {A B A' B' : Nat → Nat → Prop} {μ μ1 : fMem} (h : Kx A B μ μ1) (ha : ∀ k j, A k j → A' k j) (hb : ∀ k j, B k j → B' k j) : Kx A' B' μ μ1 := ⟨h.1, fun k j q => h.2.1 k j (fun z => q (ha k j z)), fun k j q => h.2.2 k j (fun z => q (hb k j z))⟩
theorem Kx.sI {A B : Nat → Nat → Prop} {μ μ1 : fMem} (h : Kx A B μ μ1) {k j : Nat} {v : Int32} (hk : A k j) : Kx A B μ (sI μ1 k j v) := ⟨h.1, fun k' j' q => by
  rw [sI_i, if_neg (fun e => q (by rw [e.1, e.2]; exact hk))]
  exact h.2.1 k' j' q, h.2.2⟩
theorem Kx.sL {A B : Nat → Nat → Prop} {μ μ1 : fMem} (h : Kx A B μ μ1) {k j : Nat} {v : Int64} (hk : B k j) : Kx A B μ (sL μ1 k j v) := ⟨h.1, h.2.1, fun k' j' q => by
  rw [sL_l, if_neg (fun e => q (by rw [e.1, e.2]; exact hk))]
  exact h.2.2 k' j' q⟩
/-- what working a law out may touch -/
abbrev A0 (k j : Nat) : Prop := k = 181 ∧ j = 36
abbrev B0 (k j : Nat) : Prop := k = 201 ∨ k = 202
abbrev BW (k j : Nat) : Prop := k = 202
def scd (s : Int32) : Int32 := if s = 10 then 262 else if s = 11 then 261 else if s = 12 then 260 else if s = 27 then 60 else if s = 28 then 256 else if s = 29 then 61 else if s = 30 then 257 else if s = 31 then 258 else if s = 32 then 62 else if s = 33 then 43 else if s = 34 then 45 else if s = 35 then 42 else 47
def cdm (k : Int32 × Int32) : Int32 × Int32 := if k.1 = 21 then (0, k.2) else if isNm k.1 then (1, k.1 - 13) else (2, scd k.1)
def ML (ν : fMem) (k : Nat) (L : List (Int32 × Int32)) : Prop := ∃ a, ν.1 197 k = nI a ∧ ν.1 198 k = nI (a + L.length) ∧ a + L.length ≤ 64 ∧ ∀ i, i < L.length → ∃ kn, L[i]? = some kn ∧ ν.1 199 (a + i) = (cdm kn).1 ∧ ν.1 200 (a + i) = (cdm kn).2
theorem labI {b : Int64} (hb : inB b) : (lab b).toInt = (if 0 < b.toInt then b.toInt else -b.toInt) := by
  have h1 := Int64.le_iff_toInt_le.mp hb.1
  have h2 := Int64.le_iff_toInt_le.mp hb.2
  rw [show LGT.toInt = 1000000000000 by decide] at h1
  rw [show (-LGT).toInt = -1000000000000 by decide] at h2
  unfold lab
  by_cases h : 0 < b
  · have h3 : (0 : Int) < b.toInt := Int64.lt_iff_toInt_lt.mp h
    rw [if_pos h, if_pos h3]
  · have h3 : ¬ (0 : Int) < b.toInt := fun q => h (Int64.lt_iff_toInt_lt.mpr q)
    rw [if_neg h, if_neg h3, Int64.toInt_neg, Int.bmod_eq_of_le (by omega) (by omega)]
theorem divI (a : Int64) : (LGT / a).toInt ≤ 1000000000000 ∧ -1000000000000 ≤ (LGT / a).toInt := by
  have e : LGT.toInt = 1000000000000 := by decide
  have h : (LGT.toInt.tdiv a.toInt).natAbs ≤ 1000000000000 := by
    rw [Int.natAbs_tdiv, e]
    exact Nat.le_trans (Nat.div_le_self _ _) (by decide)
  have h2 : (LGT / a).toInt = LGT.toInt.tdiv a.toInt := by
    rw [Int64.toInt_div, Int.bmod_eq_of_le (by omega) (by omega)]
  rw [h2]
  omega
theorem absI {a : Int64} (ha : ¬ a = 0) : (if a < 0 then -a else a) = lab a := by
  unfold lab
  by_cases h : a < 0
  · rw [if_pos h, if_neg (fun q => absurd (Int64.lt_trans h q) Int64.lt_irrefl)]
  · rw [if_neg h]
    by_cases h2 : 0 < a
    · rw [if_pos h2]
    · exact absurd (Int64.le_antisymm (Int64.not_lt.mp h2) (Int64.not_lt.mp h)) ha
theorem timesI {a b : Int64} (hb : inB b) : lab b ≤ LGT / lab a ↔ ¬ (LGT / lab a < b ∨ b < -(LGT / lab a)) := by
  have hq := divI (lab a)
  have h1 := Int64.le_iff_toInt_le.mp hb.1
  have h2 := Int64.le_iff_toInt_le.mp hb.2
  rw [show LGT.toInt = 1000000000000 by decide] at h1
  rw [show (-LGT).toInt = -1000000000000 by decide] at h2
  rw [Int64.le_iff_toInt_le, labI hb, Int64.lt_iff_toInt_lt, Int64.lt_iff_toInt_lt, Int64.toInt_neg, Int.bmod_eq_of_le (by omega) (by omega)]
  generalize (LGT / lab a).toInt = Q at *
  by_cases h : 0 < b.toInt
  · rw [if_pos h]; omega
  · rw [if_neg h]; omega
theorem lab_ne {a : Int64} (ha : ¬ a = 0) (hB : inB a) : ¬ lab a = 0 := by
  intro q
  have h := labI hB
  rw [q] at h
  refine ha (Int64.toInt_inj.mp ?_)
  show a.toInt = 0
  have h0 : (0 : Int64).toInt = 0 := rfl
  rw [h0] at h
  by_cases h3 : 0 < a.toInt
  · rw [if_pos h3] at h; omega
  · rw [if_neg h3] at h; omega
theorem j407_spec {ν : fMem} {v : Int64} {n : Nat} (hm : ν.1 181 36 = nI (n + 1)) (hn : n < 64) :
    f_X11_works_j407 181 v ν = some ((if inB v then 1 else 0), sL ν 202 n v) := by
  unfold f_X11_works_j407
  rw [hm, show nI (n + 1) - 1 = nI n from nI_sub n 1, gd_t (ixN hn (by omega)), nI_clamp (by omega)]
  unfold vl
  simp only [lgp, lgn, Nat.reduceAdd]
  by_cases h : inB v
  · rw [if_neg (Int64.not_lt.mpr h.1), if_neg (Int64.not_lt.mpr h.2), if_pos h, gd_t (Or.inr rfl)]
  · rw [if_neg h]
    by_cases h1 : LGT < v
    · rw [if_pos h1, gd_t (Or.inl rfl)]
    · rw [if_neg h1, if_pos (by
        rcases Int64.lt_or_le v (-LGT) with q | q
        · exact q
        · exact absurd ⟨Int64.not_lt.mp h1, q⟩ h), gd_t (Or.inl rfl)]
theorem is_spec (b : Int32) (ν : fMem) : f_X11_is b ν = some ((if b = 0 then 0 else 1), ν) := by
  unfold f_X11_is
  by_cases h : b = 0 <;> simp [h]
theorem bd_if {α β γ : Type} {c : Prop} [Decidable c] {x y : Option (α × β)} {f : α → β → Option γ} : bd (if c then x else y) f = if c then bd x f else bd y f := by by_cases h : c <;> simp [h]
theorem works_sg {ν : fMem} {s : Int32} {a b : Int64} {n : Nat} (hs : s ∈ signs) (hm : ν.1 181 36 = nI (n + 2)) (hn : n + 2 ≤ 64) (ha : ν.2.1 202 n = a) (hb : ν.2.1 202 (n + 1) = b) (hB : inB b) (hA : inB a) :
    Ok (f_X11_works 181 (scd s) ν) (fun r ν' => (∃ v, jn s a b = some v ∧ r = (if inB v then 1 else 0) ∧ ν' = sL (sI ν 181 36 (nI (n + 1))) 202 n v) ∨ (jn s a b = none ∧ r = 0 ∧ ν' = sI ν 181 36 (nI (n + 1)))) := by
  unfold f_X11_works
  have e2 : nI (n + 2) - 2 = nI n := nI_sub _ 2
  have e1 : nI (n + 2) - 1 = nI (n + 1) := nI_sub (n + 1) 1
  rw [hm, e1, e2, gd_t (ixN (by omega) (by omega)), nI_clamp (by omega)]
  simp only [Nat.reduceAdd, hb]
  rw [Ok_vl, if_neg (show ¬ scd s = 260 from (by decide : ∀ s ∈ signs, ¬ scd s = 260) s hs), gd_t (ixN (by omega) (by omega)), nI_clamp (by omega), ha, Ok_vl, Ok_vl]
  have hm' : (sI ν 181 36 (nI (n + 1))).1 181 36 = nI (n + 1) := by rw [sI_i, if_pos ⟨rfl, rfl⟩]
  generalize sI ν 181 36 (nI (n + 1)) = ν6 at hm' ⊢
  have J : ∀ v, f_X11_works_j407 181 v ν6 = some ((if inB v then 1 else 0), sL ν6 202 n v) := fun v => j407_spec hm' (by omega)
  simp only [lgz, lgnn, lgp, lgn, lgnp]
  simp only [signs, List.mem_cons, List.not_mem_nil, or_false] at hs
  have fin : ∀ v, jn s a b = some v → Ok (f_X11_works_j407 181 v ν6) (fun r ν' => (∃ v, jn s a b = some v ∧ r = (if inB v then 1 else 0) ∧ ν' = sL ν6 202 n v) ∨ (jn s a b = none ∧ r = 0 ∧ ν' = ν6)) := by
    intro v hv
    rw [J, Ok_some]
    exact Or.inl ⟨v, hv, rfl, rfl⟩
  unfold f_X11_works_j402 f_X11_works_j397 f_X11_works_j376 f_X11_works_j375 f_X11_works_j350 f_X11_works_j330 f_X11_works_j310 f_X11_works_j290 f_X11_works_j270 f_X11_works_j250 f_X11_works_j212
  unfold f_X11_works_j402 f_X11_works_j376
  simp only [is_spec, bd_some]
  rcases hs with rfl | rfl | rfl | rfl | rfl | rfl | rfl | rfl | rfl | rfl | rfl | rfl
  · simp only [scd, reduceIte, show ¬ (262 : Int32) = 42 by decide, show ¬ (262 : Int32) = 43 by decide, show ¬ (262 : Int32) = 45 by decide, show ¬ (262 : Int32) = 47 by decide, show ¬ (262 : Int32) = 60 by decide, show ¬ (262 : Int32) = 61 by decide, show ¬ (262 : Int32) = 62 by decide, show ¬ (262 : Int32) = 256 by decide, show ¬ (262 : Int32) = 257 by decide, show ¬ (262 : Int32) = 258 by decide, show ¬ (262 : Int32) = 261 by decide, show ¬ (1 : Int32) = 0 by decide]
    by_cases h1 : a = 0
    · by_cases h2 : b = 0
      · rw [if_pos h1, if_pos h2]; exact fin _ (by simp [jn, h1, h2])
      · rw [if_pos h1, if_neg h2]; exact fin _ (by simp [jn, h1, h2])
    · rw [if_neg h1]; exact fin _ (by simp [jn, h1])
  · simp only [scd, reduceIte, show ¬ (11 : Int32) = 10 by decide, show ¬ (261 : Int32) = 42 by decide, show ¬ (261 : Int32) = 43 by decide, show ¬ (261 : Int32) = 45 by decide, show ¬ (261 : Int32) = 47 by decide, show ¬ (261 : Int32) = 60 by decide, show ¬ (261 : Int32) = 61 by decide, show ¬ (261 : Int32) = 62 by decide, show ¬ (261 : Int32) = 256 by decide, show ¬ (261 : Int32) = 257 by decide, show ¬ (261 : Int32) = 258 by decide, show ¬ (1 : Int32) = 0 by decide]
    by_cases h1 : a = 0
    · rw [if_pos h1]; exact fin _ (by simp [jn, h1])
    · by_cases h2 : b = 0
      · rw [if_neg h1, if_pos h2]; exact fin _ (by simp [jn, h1, h2])
      · rw [if_neg h1, if_neg h2]; exact fin _ (by simp [jn, h1, h2])
  · rw [show scd 27 = 60 by decide, if_neg (by decide), if_neg (by decide), if_neg (by decide), if_neg (by decide), if_pos rfl]
    by_cases h1 : b ≤ a
    · rw [if_pos h1]; exact fin _ (by simp [jn, Int64.not_lt.mpr h1])
    · rw [if_neg h1]; exact fin _ (by simp [jn, Int64.not_le.mp h1])
  · rw [show scd 28 = 256 by decide, if_neg (by decide), if_neg (by decide), if_neg (by decide), if_neg (by decide), if_neg (by decide), if_neg (by decide), if_neg (by decide), if_pos rfl]
    by_cases h1 : b < a
    · rw [if_pos h1]; exact fin _ (by simp [jn, Int64.not_le.mpr h1])
    · rw [if_neg h1]; exact fin _ (by simp [jn, Int64.not_lt.mp h1])
  · rw [show scd 29 = 61 by decide, if_neg (by decide), if_neg (by decide), if_neg (by decide), if_neg (by decide), if_neg (by decide), if_pos rfl]
    by_cases h1 : a = b
    · rw [if_pos h1]; exact fin _ (by simp [jn, h1])
    · rw [if_neg h1]; exact fin _ (by simp [jn, h1])
  · rw [show scd 30 = 257 by decide, if_neg (by decide), if_neg (by decide), if_neg (by decide), if_neg (by decide), if_neg (by decide), if_neg (by decide), if_neg (by decide), if_neg (by decide), if_pos rfl]
    by_cases h1 : a = b
    · rw [if_pos h1]; exact fin _ (by simp [jn, h1])
    · rw [if_neg h1]; exact fin _ (by simp [jn, h1])
  · rw [show scd 31 = 258 by decide, if_neg (by decide), if_neg (by decide), if_neg (by decide), if_neg (by decide), if_neg (by decide), if_neg (by decide), if_neg (by decide), if_neg (by decide), if_neg (by decide), if_pos rfl]
    by_cases h1 : a < b
    · rw [if_pos h1]; exact fin _ (by simp [jn, Int64.not_le.mpr h1])
    · rw [if_neg h1]; exact fin _ (by simp [jn, Int64.not_lt.mp h1])
  · rw [show scd 32 = 62 by decide, if_neg (by decide), if_neg (by decide), if_neg (by decide), if_neg (by decide), if_neg (by decide), if_neg (by decide), if_pos rfl]
    by_cases h1 : a ≤ b
    · rw [if_pos h1]; exact fin _ (by simp [jn, Int64.not_lt.mpr h1])
    · rw [if_neg h1]; exact fin _ (by simp [jn, Int64.not_le.mp h1])
  · rw [show scd 33 = 43 by decide, if_neg (by decide), if_pos rfl, Ok_vl]
    exact fin _ (by simp [jn])
  · rw [show scd 34 = 45 by decide, if_neg (by decide), if_neg (by decide), if_pos rfl, Ok_vl]
    exact fin _ (by simp [jn])
  · rw [show scd 35 = 42 by decide, if_pos rfl]
    by_cases h1 : a = 0
    · rw [if_pos h1, Ok_vl]; exact fin _ (by simp [jn, h1])
    · rw [if_neg h1, gd_t (lab_ne h1 hA)]
      simp only [timesI hB]
      by_cases h2 : LGT / lab a < b ∨ b < -(LGT / lab a)
      · rw [if_neg (fun q => q h2), gd_t (Or.inl rfl), Ok_some]
        exact Or.inr ⟨by unfold jn; rw [if_pos rfl, if_neg h1, absI h1, if_pos h2], rfl, rfl⟩
      · rw [if_pos h2, Ok_vl]
        exact fin _ (by unfold jn; rw [if_pos rfl, if_neg h1, absI h1, if_neg h2])
  · rw [show scd 36 = 47 by decide, if_neg (by decide), if_neg (by decide), if_neg (by decide), if_pos rfl]
    by_cases h1 : b = 0
    · rw [if_pos h1, gd_t (Or.inl rfl), Ok_some]
      exact Or.inr ⟨by simp [jn, h1], rfl, rfl⟩
    · rw [if_neg h1, gd_t h1, Ok_vl]; exact fin _ (by simp [jn, h1])
theorem works_not {ν : fMem} {a : Int64} {n : Nat} (hm : ν.1 181 36 = nI (n + 1)) (hn : n + 1 ≤ 64) (ha : ν.2.1 202 n = a) :
    f_X11_works 181 260 ν = some (1, sL ν 202 n (if a = 0 then 1 else 0)) := by
  unfold f_X11_works f_X11_works_j40
  have e1 : nI (n + 1) - 1 = nI n := nI_sub n 1
  have i1 : ixo (nI n) 64 := ixN (by omega) (by omega)
  simp only [Nat.reduceAdd, hm, e1, gd_t i1, nI_clamp (show n < 2 ^ 31 by omega), ha, lgz, is_spec, bd_some, vl, if_true, gd_t (Or.inr rfl : bl 1)]
  by_cases h : a = 0
  · simp only [h, if_true, show ¬ (1 : Int32) = 0 by decide, if_false]
  · simp only [h, if_true, if_false]
theorem cdm_fst (k : Int32 × Int32) : (cdm k).1 = if k.1 = 21 then 0 else if isNm k.1 then 1 else 2 := by
  unfold cdm
  by_cases h : k.1 = 21
  · rw [if_pos h, if_pos h]
  · rw [if_neg h, if_neg h]
    by_cases h2 : isNm k.1
    · rw [if_pos h2, if_pos h2]
    · rw [if_neg h2, if_neg h2]
theorem goes_spec {ν : fMem} {k : Nat} {L : List (Int32 × Int32)} {nm : Nat → Int32} (hL : ML ν k L) (hw : WL L) (hne : ¬ L = []) (hk : k < 3) (hn : ∀ j, j < 7 → ν.2.1 201 j = (nm j).toInt64) :
    Ok (f_X11_goes 181 (nI k) ν) (fun r ν' => Kx A0 BW ν ν' ∧ ((∃ v, ev L nm = some v ∧ r = 1 ∧ ν'.2.1 202 0 = v) ∨ (ev L nm = none ∧ r = 0))) := by
  obtain ⟨a, hf, ht, hal, hkn⟩ := hL
  unfold f_X11_goes
  simp only [Nat.reduceAdd]
  rw [Ok_vl, gd_t (ixN (by omega) (by omega)), Ok_vl, nI_clamp (by omega), sI_i, if_neg (by omega), hf, Ok_bd]
  obtain ⟨E, hE⟩ : ∃ E, evs nm L [] = E := ⟨_, rfl⟩
  have hlen : L.length ≤ 64 := hw.1
  refine Ok.mono (Q := fun u (s : Int32 × fMem) => Kx A0 BW ν s.2 ∧ ((u = 0 ∧ ∃ st, E = some st ∧ Stk (s.2.2.1 202) st ∧ st.length = 1) ∨ (u ≠ 0 ∧ E = none))) (Ok_lp L.length (fun i (s : Int32 × fMem) => s.1 = nI (a + i) ∧ Kx A0 BW ν s.2 ∧ ∃ st, s.2.1 181 36 = nI st.length ∧ Stk (s.2.2.1 202) st ∧ E = evs nm (L.drop i) st ∧ dp (L.drop i) st.length = some 1 ∧ st.length ≤ i) (by omega) ⟨rfl, Kx.rfl'.sI ⟨rfl, rfl⟩, [], by rw [sI_i, if_pos ⟨rfl, rfl⟩]; rfl, trivial, hE.symm, hw.2.2.resolve_left hne, Nat.le_refl _⟩ ?_) ?_
  · rintro i ⟨x, ν1⟩ hi ⟨hx, hK, st, hsz, hst, hev, hdp, hsi⟩
    dsimp only at hx hK hsz hst ⊢
    subst hx
    unfold f_X11_goes_L12
    simp only [Nat.reduceAdd]
    rw [gd_t (ixN (by omega) (by omega)), nI_clamp (by omega), hK.2.1 198 k (by omega), ht]
    rcases Nat.lt_or_ge i L.length with q | q
    · rw [if_neg (nI_ge (by omega) (by omega))]
      obtain ⟨⟨s, n⟩, hg, h1, h2⟩ := hkn i q
      have hdr := drop_step hg
      have hgk : gk s := hw.2.1 _ (List.mem_of_getElem? hg)
      rw [hdr] at hev hdp
      unfold evs st1 at hev
      unfold dp at hdp
      unfold tk at hdp
      dsimp only at hev hdp
      simp only [gd_t (show ixo (nI (a + i)) 128 from ixN (by omega) (by omega)), nI_clamp (show a + i < 2 ^ 31 by omega), hK.2.1 199 (a + i) (by omega), hK.2.1 200 (a + i) (by omega), h1, h2, cdm_fst]
      have fin : ∀ (r : List Int64) (v : Int64) (ν2 : fMem), inB v → Stk (ν2.2.1 202) (v :: r) → Kx A0 BW ν ν2 → ν2.1 181 36 = nI (r.length + 1) → E = evs nm (L.drop (i + 1)) (v :: r) → dp (L.drop (i + 1)) (r.length + 1) = some 1 → r.length ≤ i → ((0 = 0 ∧ i < L.length ∧ (nI (a + (i + 1)), ν2).1 = nI (a + (i + 1)) ∧ Kx A0 BW ν (nI (a + (i + 1)), ν2).2 ∧ ∃ st', (nI (a + (i + 1)), ν2).2.1 181 36 = nI st'.length ∧ Stk ((nI (a + (i + 1)), ν2).2.2.1 202) st' ∧ E = evs nm (L.drop (i + 1)) st' ∧ dp (L.drop (i + 1)) st'.length = some 1 ∧ st'.length ≤ i + 1)) := by
        intro r v ν2 hv hr hK2 hm h1 h2 h3
        exact ⟨rfl, q, rfl, hK2, v :: r, hm, hr, h1, h2, by simp; omega⟩
      have push : ∀ v : Int64, inB v → f_X11_goes_j85 181 (nI k) (nI (a + i)) 202 (ν1.1 181 36) v ν1 = some (0, (nI (a + (i + 1)), sI (sL ν1 202 st.length v) 181 36 (nI (st.length + 1)))) := by
        intro v hv
        unfold f_X11_goes_j85 vl
        have i1 : ixo (nI st.length) 64 := ixN (by omega) (by omega)
        simp only [hsz, gd_t i1, nI_clamp (show st.length < 2 ^ 31 by omega), sL_i, nI_1]
        rfl
      by_cases h21 : s = 21
      · subst h21
        rw [if_pos rfl] at hev
        rw [if_pos (Or.inl rfl), if_neg (by omega), Nat.sub_zero] at hdp
        rw [if_pos rfl, if_neg (by decide), if_pos rfl, push _ (inB_int _), Ok_some]
        have e : (cdm (21, n)).2 = n := by unfold cdm; rw [if_pos rfl]
        rw [e]
        exact Or.inl (fin st _ _ (inB_int _) (Stk_put hst (inB_int _) rfl) ((hK.sL rfl).sI ⟨rfl, rfl⟩) (by rw [sI_i, if_pos ⟨rfl, rfl⟩]) hev hdp hsi)
      · rw [if_neg h21] at hev ⊢
        by_cases hnm : isNm s
        · rw [if_pos hnm] at hev ⊢
          rw [if_pos (Or.inr hnm), if_neg (by omega), Nat.sub_zero] at hdp
          have e : (cdm (s, n)).2 = s - 13 := by unfold cdm; rw [if_neg h21, if_pos hnm]
          obtain ⟨j, hj, rfl⟩ := isNm_ex hnm
          have e3 : nI (j + 13) - 13 = nI j := nI_sub j 13
          rw [if_neg (by decide), if_neg (by decide), e]
          simp only [e3] at hev ⊢
          rw [gd_t (ixN hj (by omega)), nI_clamp (by omega), hK.2.2 201 j (by omega), hn j hj, push _ (inB_int _), Ok_some]
          rw [nI_clamp (by omega)] at hev
          exact Or.inl (fin st _ _ (inB_int _) (Stk_put hst (inB_int _) rfl) ((hK.sL rfl).sI ⟨rfl, rfl⟩) (by rw [sI_i, if_pos ⟨rfl, rfl⟩]) hev hdp hsi)
        · rw [if_neg hnm] at hev ⊢
          rw [if_neg (not_or.mpr ⟨h21, hnm⟩)] at hdp
          have e : (cdm (s, n)).2 = scd s := by unfold cdm; rw [if_neg h21, if_neg hnm]
          rw [if_pos rfl, e]
          by_cases h12 : s = 12
          · subst h12
            rw [if_pos rfl] at hev hdp
            cases st with
            | nil => simp at hdp
            | cons x r =>
              rw [if_neg (by simp)] at hdp
              simp only [List.length_cons, Nat.add_sub_cancel] at hdp hsi hsz
              rw [show scd 12 = 260 by decide, works_not hsz (by omega) hst.1, bd_some, if_neg (by decide), Ok_vl, nI_1, Ok_some]
              have hv : inB (if x = 0 then 1 else 0) := by by_cases hx : x = 0 <;> simp only [hx, if_true, if_false] <;> decide
              exact Or.inl (fin r _ _ hv (Stk_put hst.2.2 hv rfl) (hK.sL rfl) hsz hev hdp (by omega))
          · rw [if_neg h12] at hev hdp
            have hsg : s ∈ signs := by
              rcases hgk with z | z | z | z
              · exact absurd z h21
              · exact absurd z hnm
              · exact absurd z h12
              · exact z
            cases st with
            | nil => simp at hdp
            | cons y r =>
              cases r with
              | nil => simp at hdp
              | cons x r =>
                rw [if_neg (by simp)] at hdp
                simp only [List.length_cons, Nat.add_sub_cancel, show r.length + 1 + 1 - 2 + 1 = r.length + 1 by omega, show r.length + 1 + 1 = r.length + 2 by omega] at hdp hsi hsz
                rw [Ok_bd]
                refine Ok.mono (works_sg hsg hsz (by omega) hst.2.2.1 hst.1 hst.2.1 hst.2.2.2.1) ?_
                dsimp only at hev
                rintro r6 ν2 (⟨v, hv, rfl, rfl⟩ | ⟨hv, rfl, rfl⟩)
                · rw [hv] at hev
                  dsimp only at hev
                  by_cases hB : inB v
                  · rw [if_pos hB] at hev ⊢
                    rw [if_neg (by decide), Ok_vl, nI_1, Ok_some]
                    exact Or.inl (fin r v _ hB (Stk_put hst.2.2.2.2 hB rfl) ((hK.sI ⟨rfl, rfl⟩).sL rfl) (by rw [sL_i, sI_i, if_pos ⟨rfl, rfl⟩]) hev hdp (by omega))
                  · rw [if_neg hB] at hev ⊢
                    rw [if_pos rfl, Ok_some]
                    exact Or.inr ⟨1, rfl, (hK.sI ⟨rfl, rfl⟩).sL rfl, Or.inr ⟨by decide, hev⟩⟩
                · rw [hv] at hev
                  rw [if_pos rfl, Ok_some]
                  exact Or.inr ⟨1, rfl, hK.sI ⟨rfl, rfl⟩, Or.inr ⟨by decide, hev⟩⟩
    · rw [if_pos (nI_le (by omega) (by omega)), Ok_some]
      have e : L.drop i = [] := List.drop_eq_nil_of_le q
      rw [e] at hev hdp
      exact Or.inr ⟨0, rfl, hK, Or.inl ⟨rfl, st, hev, hst, Option.some.inj hdp⟩⟩
  · rintro u ⟨x, ν1⟩ ⟨hK, h⟩
    dsimp only at hK h ⊢
    unfold ev
    rw [hE]
    rcases h with ⟨rfl, st, he, hst, h1⟩ | ⟨hu, he⟩
    · rw [he, if_pos rfl, gd_t (Or.inr rfl), Ok_some]
      match st, h1, hst with
      | [v], _, hst => exact ⟨hK, Or.inl ⟨v, rfl, rfl, hst.1⟩⟩
    · rw [he, if_neg hu, gd_t (Or.inl rfl), Ok_some]
      exact ⟨hK, Or.inr ⟨rfl, rfl⟩⟩
theorem hasLaw_spec {ν : fMem} {k : Nat} {L : List (Int32 × Int32)} (hL : ML ν k L) (hk : k < 3) : f_X11_hasLaw 181 (nI k) ν = some ((if L = [] then 0 else 1), ν) := by
  obtain ⟨a, hf, ht, hal, -⟩ := hL
  unfold f_X11_hasLaw
  simp only [Nat.reduceAdd, gd_t (show ixo (nI k) 6 from ixN (by omega) (by omega)), nI_clamp (show k < 2 ^ 31 by omega), hf, ht]
  by_cases h : L = []
  · subst h
    rw [if_pos rfl, if_pos (nI_le (by simp) (by omega)), gd_t (Or.inl rfl)]
  · have : 0 < L.length := List.length_pos_iff.mpr h
    rw [if_neg h, if_neg (nI_ge (by omega) (by omega)), gd_t (Or.inr rfl)]
