/-! the class reads a law -/
def LWc (y lw : Nat) : Prop := (y = 2 ∨ y = 37) ∧ (lw = y + 16 ∨ lw = y + 20 ∨ lw = y + 24)
def CW (μ : fMem) : List Nat → Prop
  | [] => True
  | s :: st => μ.1 65 st.length = nI s ∧ CW μ st
def Us (μ : fMem) (lw : Nat) (o : List (Int32 × Int32)) : Prop := ∀ i, i < 7 → nbit (μ.1 lw 2) i → ∀ p ∈ o, ¬ p.1 = nI (i + 13)
def CE0 (μ : fMem) (y lw : Nat) (st : List Nat) (o : List (Int32 × Int32)) (kn op : Nat) : Prop := μ.1 30 6 = nI st.length ∧ CW μ st ∧ μ.1 30 7 = nI op ∧ CL μ lw o ∧ Us μ lw o ∧ μ.1 y 2 = nI kn
abbrev AL (lw k j : Nat) : Prop := (k = lw ∧ (j = 1 ∨ j = 2)) ∨ k = lw + 1 ∨ k = lw + 2
abbrev AS (lw k j : Nat) : Prop := (k = 30 ∧ j = 6) ∨ AL lw k j
abbrev AEX (y lw k j : Nat) : Prop := (k = 30 ∧ (j ≤ 1 ∨ j = 6 ∨ j = 7)) ∨ k = 65 ∨ AL lw k j ∨ (k = y ∧ j = 2)
abbrev AEY (y lw k j : Nat) : Prop := (k = 30 ∧ (j = 6 ∨ j = 7)) ∨ k = 65 ∨ AL lw k j ∨ (k = y ∧ j = 2)
theorem CW.of {μ μ' : fMem} (e : ∀ j, μ'.1 65 j = μ.1 65 j) : ∀ {st : List Nat}, CW μ st → CW μ' st
  | [], _ => trivial
  | s :: st, h => ⟨by rw [e]; exact h.1, CW.of e h.2⟩
theorem CW.put {μ : fMem} {n : Nat} {v : Int32} : ∀ {st : List Nat}, st.length ≤ n → CW μ st → CW (sI μ 65 n v) st
  | [], _, _ => trivial
  | s :: st, hn, h => by
    rw [List.length_cons] at hn
    exact ⟨by rw [sI_i, if_neg (by omega)]; exact h.1, CW.put (by omega) h.2⟩
theorem CL.of' {μ μ' : fMem} {c : Nat} {L : List (Int32 × Int32)} (H : CL μ c L) (e0 : μ'.1 c 1 = μ.1 c 1) (e : ∀ k j, c + 1 ≤ k → k ≤ c + 2 → μ'.1 k j = μ.1 k j) : CL μ' c L := by
  refine ⟨by rw [e0]; exact H.1, fun i hi => ?_⟩
  rw [e (c + 1) i (by omega) (by omega), e (c + 2) i (by omega) (by omega)]
  exact H.2 i hi
theorem nbit_17 : ∀ o, o < 7 → ∀ b, b < 7 → (nbit (shl 1 (nI o)) b ↔ ¬ b = o) := by decide +kernel
theorem lwadd_spec {μ : fMem} {lw : Nat} {o : List (Int32 × Int32)} (c : CL μ lw o) (u : Us μ lw o) (h : o.length < 64) {s : Nat} (hs : s ≤ 36) (v : Int32) : Ok (f_X3_add lw (nI s) v μ) (fun _ μ' => CL μ' lw (o ++ [(nI s, v)]) ∧ Us μ' lw (o ++ [(nI s, v)]) ∧ Kx (AL lw) BN μ μ') := by
  unfold f_X3_add
  have e1 : ∀ {m : fMem} {j : Nat} {k : Nat} {v : Int32}, ¬ k = lw → (sI m k j v).1 lw 1 = m.1 lw 1 := by intro m j k v h; rw [sI_i, if_neg (by omega)]
  rw [c.1, if_neg (show ¬ 64 ≤ nI o.length from nI_ge (b := 64) h (by decide)), if_pos (show nI o.length < 64 from nI_lt (b := 64) h (by decide)), gd_t (ixN h (by decide)), nI_clamp (by omega), Ok_vl, e1 (by omega), c.1, gd_t (ixN h (by decide)), nI_clamp (by omega), Ok_vl, Ok_vl, e1 (by omega), e1 (by omega), c.1, nI_1]
  have K0 : Kx (AL lw) BN μ (sI (sI (sI μ (lw + 1) o.length (nI s)) (lw + 2) o.length v) lw 1 (nI (o.length + 1))) := ((Kx.rfl'.sI (by omega)).sI (by omega)).sI (by omega)
  have C0 : CL (sI (sI (sI μ (lw + 1) o.length (nI s)) (lw + 2) o.length v) lw 1 (nI (o.length + 1))) lw (o ++ [(nI s, v)]) := by
    refine ⟨by rw [sI_i, if_pos ⟨rfl, rfl⟩, List.length_append]; rfl, fun i hi => ?_⟩
    rw [List.length_append, List.length_singleton] at hi
    rcases Nat.lt_or_ge i o.length with q | q
    · rw [List.getElem?_append_left q, sI_i, if_neg (by omega), sI_i, if_neg (by omega), sI_i, if_neg (by omega), sI_i, if_neg (by omega), sI_i, if_neg (by omega), sI_i, if_neg (by omega)]
      exact c.2 i q
    · have : i = o.length := by omega
      subst this
      rw [List.getElem?_append_right (Nat.le_refl _), Nat.sub_self, sI_i, if_neg (by omega), sI_i, if_neg (by omega), sI_i, if_pos ⟨rfl, rfl⟩, sI_i, if_neg (by omega), sI_i, if_pos ⟨rfl, rfl⟩]
      rfl
  have u0 : (sI (sI (sI μ (lw + 1) o.length (nI s)) (lw + 2) o.length v) lw 1 (nI (o.length + 1))).1 lw 2 = μ.1 lw 2 := by
    rw [sI_i, if_neg (by omega), sI_i, if_neg (by omega), sI_i, if_neg (by omega)]
  generalize sI (sI (sI μ (lw + 1) o.length (nI s)) (lw + 2) o.length v) lw 1 (nI (o.length + 1)) = μ1 at K0 C0 u0 ⊢
  have U : ¬ (13 ≤ s ∧ s ≤ 19) → Us μ1 lw (o ++ [(nI s, v)]) := by
    intro hn i hi hb p hp
    rw [u0] at hb
    rcases List.mem_append.mp hp with q | q
    · exact u i hi hb p q
    · rw [List.mem_singleton.mp q]
      intro z
      have := (nI_eq (by omega) (by omega)).mp z
      omega
  rcases Nat.lt_or_ge s 13 with q | q
  · rw [if_pos (show nI s < 13 from nI_lt (b := 13) q (by decide)), Ok_some]
    exact ⟨C0, U (by omega), K0⟩
  · rw [if_neg (show ¬ nI s < 13 from nI_nlt (b := 13) q (by omega))]
    rcases Nat.lt_or_ge 19 s with q2 | q2
    · rw [if_pos (show 19 < nI s from nI_lt (a := 19) q2 (by omega)), Ok_some]
      exact ⟨C0, U (by omega), K0⟩
    · rw [if_neg (show ¬ 19 < nI s from nI_nlt (a := 19) q2 (by decide)), Ok_vl, Ok_some, u0, show nI s - 13 = nI (s - 13) by rw [show (13 : Int32) = nI 13 from rfl, ← nI_sub (s - 13) 13, show s - 13 + 13 = s by omega]]
      refine ⟨C0.of' (by rw [sI_i, if_neg (by omega)]) (fun k j a b => by rw [sI_i, if_neg (by omega)]), ?_, K0.sI (by omega)⟩
      intro i hi hb p hp
      rw [sI_i, if_pos ⟨rfl, rfl⟩, nbit_or (by omega)] at hb
      rcases List.mem_append.mp hp with z | z
      · exact u i hi hb.1 p z
      · rw [List.mem_singleton.mp z]
        intro z
        have := (nI_eq (by omega) (by omega)).mp z
        exact (nbit_17 (s - 13) (by omega) i hi).mp hb.2 (by omega)
theorem rk6 (s : Nat) : rk s ≤ 6 := by
  unfold rk
  repeat' split
  all_goals omega
theorem rank_eq {s : Nat} (hs : s ≤ 36) (μ : fMem) : f_X5_rank (nI s) μ = some (nI (rk s), μ) := by
  have h : s < 37 := by omega
  match s, h with
  | 0, _ => rfl
  | 1, _ => rfl
  | 2, _ => rfl
  | 3, _ => rfl
  | 4, _ => rfl
  | 5, _ => rfl
  | 6, _ => rfl
  | 7, _ => rfl
  | 8, _ => rfl
  | 9, _ => rfl
  | 10, _ => rfl
  | 11, _ => rfl
  | 12, _ => rfl
  | 13, _ => rfl
  | 14, _ => rfl
  | 15, _ => rfl
  | 16, _ => rfl
  | 17, _ => rfl
  | 18, _ => rfl
  | 19, _ => rfl
  | 20, _ => rfl
  | 21, _ => rfl
  | 22, _ => rfl
  | 23, _ => rfl
  | 24, _ => rfl
  | 25, _ => rfl
  | 26, _ => rfl
  | 27, _ => rfl
  | 28, _ => rfl
  | 29, _ => rfl
  | 30, _ => rfl
  | 31, _ => rfl
  | 32, _ => rfl
  | 33, _ => rfl
  | 34, _ => rfl
  | 35, _ => rfl
  | 36, _ => rfl
  | n + 37, h => exact absurd h (by omega)
theorem latest_eq {μ : fMem} {st : List Nat} (h6 : μ.1 30 6 = nI st.length) (hw : CW μ st) (hl : st.length ≤ 72) : f_X5_latest 30 μ = some (nI (st.headD 25), μ) := by
  unfold f_X5_latest
  rw [h6]
  cases st with
  | nil => rw [if_pos (by decide)]; rfl
  | cons s st =>
    rw [List.length_cons] at hl ⊢
    rw [if_neg (nI_nle (by omega) (by omega)), if_neg (show ¬ 72 < nI (st.length + 1) from nI_nlt (a := 72) hl (by decide)), nI_pred, gd_t (ixN (by omega) (by decide)), nI_clamp (by omega)]
    simp only [Nat.reduceAdd]
    rw [hw.1]
    rfl
theorem headD_le {st : List Nat} (h : ∀ s ∈ st, s = 25 ∨ 1 ≤ rk s) : st.headD 25 ≤ 36 ∧ rk (st.headD 25) = rkt st := by
  cases st with
  | nil => exact ⟨by decide, by decide⟩
  | cons s st =>
    refine ⟨?_, rfl⟩
    rcases h s (List.mem_cons_self) with q | q
    · show s ≤ 36; omega
    · exact (rk_le q).1
theorem settle_spec {μ : fMem} {y lw : Nat} (hl : LWc y lw) {st : List Nat} {o : List (Int32 × Int32)} {kn op r : Nat} (hr : 1 ≤ r ∧ r ≤ 6) (hst : ∀ s ∈ st, s = 25 ∨ 1 ≤ rk s) (h72 : st.length ≤ 72) (h64 : o.length + opsN st ≤ 64) (H : CE0 μ y lw st o kn op) : Ok (f_X5_settle 30 lw (nI r) μ) (fun _ μ' => CE0 μ' y lw (popR r st o).1 (popR r st o).2 kn op ∧ Kx (AS lw) BN μ μ') := by
  unfold f_X5_settle
  rw [Ok_bd]
  refine Ok.mono (Q := fun _ (z : Int32 × fMem) => CE0 z.2 y lw (popR r st o).1 (popR r st o).2 kn op ∧ Kx (AS lw) BN μ z.2) (Ok_lp 72 (fun i (z : Int32 × fMem) => z.1 = nI i ∧ Kx (AS lw) BN μ z.2 ∧ ∃ st1 o1, st1.length + i = st.length ∧ (∀ s ∈ st1, s = 25 ∨ 1 ≤ rk s) ∧ o1.length + opsN st1 ≤ 64 ∧ popR r st1 o1 = popR r st o ∧ CE0 z.2 y lw st1 o1 kn op) (by decide) ⟨rfl, Kx.rfl', st, o, rfl, hst, h64, rfl, H⟩ ?_) ?_
  · rintro i ⟨x1, μ1⟩ hi ⟨hx, K1, st1, o1, l1, m1, n1, p1, H1⟩
    dsimp only at hx K1 H1 ⊢
    subst hx
    obtain ⟨a1, a2, a3, a4, a5, a6⟩ := id H1
    unfold f_X5_settle_L2
    cases st1 with
    | nil =>
      have hfin : Ok (some ((1 : Nat), (nI i, μ1))) (fun t s' => (t = 0 ∧ i < 72 ∧ (s'.1 = nI (i + 1) ∧ Kx (AS lw) BN μ s'.2 ∧ ∃ st1 o1, st1.length + (i + 1) = st.length ∧ (∀ s ∈ st1, s = 25 ∨ 1 ≤ rk s) ∧ o1.length + opsN st1 ≤ 64 ∧ popR r st1 o1 = popR r st o ∧ CE0 s'.2 y lw st1 o1 kn op)) ∨ ∃ u, t = u + 1 ∧ (CE0 s'.2 y lw (popR r st o).1 (popR r st o).2 kn op ∧ Kx (AS lw) BN μ s'.2)) := by
        rw [Ok_some]
        exact Or.inr ⟨0, rfl, by rw [← p1]; exact H1, K1⟩
      rw [a1]
      have e : ∀ x z : Option (Nat × (Int32 × fMem)), (if nI ([] : List Nat).length ≤ 0 then x else z) = x := fun x z => if_pos (by decide)
      rw [e, ite_self]
      exact hfin
    | cons s st1 =>
      rw [List.length_cons] at l1 a1
      have hs := headD_le m1
      rw [if_neg (show ¬ 72 ≤ nI i from nI_ge (b := 72) (by omega) (by decide)), a1, if_neg (nI_nle (by omega) (by omega)), latest_eq a1 a2 (by rw [List.length_cons]; omega), bd_some, rank_eq hs.1, bd_some, hs.2]
      have rs : rkt (s :: st1) = rk s := rfl
      by_cases q : r ≤ rk s
      · have r1 := rk_le (s := s) (by omega)
        have no : opsN (s :: st1) = 1 + opsN st1 := by
          show (if s = 25 then 0 else 1) + opsN st1 = _
          rw [if_neg r1.2.1]
        rw [no] at n1
        rw [rs, if_neg (nI_nlt q (Nat.lt_of_le_of_lt (rk6 s) (by decide))), latest_eq a1 a2 (by rw [List.length_cons]; omega), bd_some, Ok_bd]
        refine (lwadd_spec a4 a5 (by omega) (s := s) (by omega) 0).mono ?_
        rintro - μ2 ⟨c2, u2, K2⟩
        have e30 : μ2.1 30 6 = nI (st1.length + 1) := by rw [K2.2.1 30 6 (by unfold LWc at hl; omega)]; exact a1
        rw [Ok_vl, Ok_vl, Ok_some, nI_1, e30, nI_pred]
        have f : ∀ k j, ¬ (k = 30 ∧ j = 6) → (sI μ2 30 6 (nI st1.length)).1 k j = μ2.1 k j := fun k j h => by rw [sI_i, if_neg (by omega)]
        have g : ∀ k j, ¬ AL lw k j → ¬ (k = 30 ∧ j = 6) → (sI μ2 30 6 (nI st1.length)).1 k j = μ1.1 k j := fun k j h1 h2 => by rw [f k j h2]; exact K2.2.1 k j h1
        refine Or.inl ⟨rfl, by omega, rfl, (K1.trans (K2.wide (fun k j h => Or.inr h) (fun _ _ h => h))).sI (Or.inl ⟨rfl, rfl⟩), st1, o1 ++ [kno s], by omega, fun z hz => m1 z (List.mem_cons_of_mem _ hz), by rw [List.length_append, List.length_singleton]; omega, ?_, ?_, ?_, ?_, ?_, ?_, ?_⟩
        · rw [← p1]; exact (if_pos q).symm
        · rw [sI_i, if_pos ⟨rfl, rfl⟩]
        · exact CW.of (fun j => g 65 j (by unfold LWc at hl; omega) (by omega)) a2.2
        · rw [g 30 7 (by unfold LWc at hl; omega) (by omega)]; exact a3
        · exact c2.of' (f _ _ (by unfold LWc at hl; omega)) (fun k j a b => f k j (by unfold LWc at hl; omega))
        · unfold Us at u2 ⊢
          rw [f _ _ (by unfold LWc at hl; omega)]
          exact u2
        · rw [g y 2 (by unfold LWc at hl; omega) (by unfold LWc at hl; omega)]; exact a6
      · rw [rs, if_pos (nI_lt (by omega) (by omega)), Ok_some]
        have e2 : popR r (s :: st1) o1 = (s :: st1, o1) := if_neg q
        rw [e2] at p1
        exact Or.inr ⟨0, rfl, by rw [← p1]; exact H1, K1⟩
  · rintro - ⟨x1, μ1⟩ h
    exact Ok_some.mpr h
theorem fail_eq {μ : fMem} {t : TQ} {K k : Nat} (hT : CT μ t K k) (c : Nat) : ∃ μ', f_X5_fail 30 (nI c) μ = some (0, μ') ∧ Kx (fun k j => k = 30 ∧ j ≤ 1) BN μ μ' ∧ μ'.1 30 0 = nI c ∧ μ'.1 30 1 = nI (t k).2.1 := by
  refine ⟨_, rfl, (Kx.rfl'.sI ⟨rfl, by omega⟩).sI ⟨rfl, by omega⟩, ?_, ?_⟩
  · rw [sI_i, if_neg (by omega), sI_i, if_pos ⟨rfl, rfl⟩]
  · rw [sI_i, if_pos ⟨rfl, rfl⟩]
    show (sI μ 30 0 (nI c)).1 31 1 = _
    rw [sI_i, if_neg (by omega)]
    exact hT.2.2.2.2.1
def CEx (μ : fMem) (y lw : Nat) (x : ES) : Prop := CE0 μ y lw x.2.2.1 x.2.2.2.1 x.2.2.2.2.1 x.2.2.2.2.2
def SO (μ : fMem) (y lw : Nat) (t : TQ) (k : Nat) (w : Nat ⊕ ES) (r : Int32) (μ' : fMem) : Prop := Kx (AEX y lw) BN μ μ' ∧ match w with
  | .inl c => r = 0 ∧ μ'.1 30 0 = nI c ∧ μ'.1 30 1 = nI (t k).2.1
  | .inr x => r = 1 ∧ Kx (AEY y lw) BN μ μ' ∧ CEx μ' y lw x
section CExp
variable {μ : fMem} {y lw : Nat} {t : TQ} {K k : Nat}
theorem ko_fail (hT : CT μ t K k) (c : Nat) {μ0 : fMem} (K0 : Kx (AEX y lw) BN μ0 μ) : Ok (bd (f_X5_fail 30 (nI c) μ) fun r μ' => gd (bl r) (some (r, μ'))) (fun r μ' => SO μ0 y lw t k (.inl c) r μ') := by
  obtain ⟨μ', e, K1, e0, e1⟩ := fail_eq hT c
  rw [e, bd_some, gd_t (Or.inl rfl), Ok_some]
  exact ⟨K0.trans (K1.wide (fun k j h => by omega) (fun _ _ h => h)), rfl, e0, e1⟩
theorem CT.ex {μ' : fMem} (hl : LWc y lw) (hT : CT μ t K k) (K1 : Kx (AEX y lw) BN μ μ') : CT μ' t K k := hT.of (fun j hj => K1.2.1 31 j (by unfold LWc at hl; omega)) (fun c a b => by funext j; exact K1.2.1 c j (by unfold LWc at hl; omega))
theorem countKnot_eq (hl : LWc y lw) (hr : μ.2.2 30 3 = y) {kn : Nat} (hk : μ.1 y 2 = nI kn) (hkn : kn < 64) : f_X5_countKnot 30 μ = some (1, sI μ y 2 (nI (kn + 1))) := by
  unfold f_X5_countKnot
  rw [vl, hr, gd_t (kd2 hl.1), hk, if_pos (show nI kn < 64 from nI_lt (b := 64) hkn (by decide)), vl, gd_t (kd2 hl.1), vl, hk, nI_1, gd_t (Or.inr rfl)]
theorem countKnot_full (hl : LWc y lw) (hr : μ.2.2 30 3 = y) {kn : Nat} (hk : μ.1 y 2 = nI kn) (hkn : ¬ kn < 64) (hk2 : kn ≤ 64) : f_X5_countKnot 30 μ = bd (f_X5_fail 30 (nI 2) μ) fun r μ' => gd (bl r) (some (r, μ')) := by
  unfold f_X5_countKnot
  rw [vl, hr, gd_t (kd2 hl.1), hk, if_neg (show ¬ nI kn < 64 from nI_nlt (b := 64) (by omega) (by omega))]
  rfl
theorem await_eq {st : List Nat} (h6 : μ.1 30 6 = nI st.length) (h72 : st.length < 72) (s : Int32) : f_X5_await 30 s μ = some (1, sI (sI μ 65 st.length s) 30 6 (nI (st.length + 1))) := by
  unfold f_X5_await
  simp only [Nat.reduceAdd]
  rw [h6, if_neg (nI_pos (by omega)), if_pos (show nI st.length < 72 from nI_lt (b := 72) h72 (by decide)), gd_t (ixN (by omega) (by decide)), nI_clamp (by omega), vl, vl, gd_t (Or.inr rfl), sI_i, if_neg (by omega), h6, nI_1]
theorem CE0.push {st : List Nat} {o : List (Int32 × Int32)} {kn op kn' op' s : Nat} (hl : LWc y lw) (H : CE0 μ y lw st o kn op) {μ' : fMem} (e : ∀ k j, ¬ (k = y ∧ j = 2) → ¬ (k = 30 ∧ j = 7) → μ'.1 k j = μ.1 k j) (e2 : μ'.1 y 2 = nI kn') (e7 : μ'.1 30 7 = nI op') : CE0 (sI (sI μ' 65 st.length (nI s)) 30 6 (nI (st.length + 1))) y lw (s :: st) o kn' op' := by
  obtain ⟨a1, a2, a3, a4, a5, a6⟩ := H
  have f : ∀ k j, ¬ (k = 65 ∧ j = st.length) → ¬ (k = 30 ∧ j = 6) → (sI (sI μ' 65 st.length (nI s)) 30 6 (nI (st.length + 1))).1 k j = μ'.1 k j := fun k j h1 h2 => by rw [sI_i, if_neg h2, sI_i, if_neg h1]
  refine ⟨by rw [sI_i, if_pos ⟨rfl, rfl⟩]; rfl, ⟨by rw [sI_i, if_neg (by omega), sI_i, if_pos ⟨rfl, rfl⟩], ?_⟩, by rw [f _ _ (by omega) (by omega)]; exact e7, ?_, ?_, by rw [f _ _ (by unfold LWc at hl; omega) (by unfold LWc at hl; omega)]; exact e2⟩
  · have w1 : CW μ' st := CW.of (fun j => e 65 j (by unfold LWc at hl; omega) (by omega)) a2
    exact CW.of (μ := sI μ' 65 st.length (nI s)) (fun j => by rw [sI_i, if_neg (by omega)]) (CW.put (Nat.le_refl _) w1)
  · exact a4.of' (by rw [f _ _ (by unfold LWc at hl; omega) (by unfold LWc at hl; omega)]; exact e _ _ (by unfold LWc at hl; omega) (by unfold LWc at hl; omega)) (fun k j a b => by rw [f _ _ (by unfold LWc at hl; omega) (by unfold LWc at hl; omega)]; exact e _ _ (by unfold LWc at hl; omega) (by unfold LWc at hl; omega))
  · unfold Us at a5 ⊢
    rw [f _ _ (by unfold LWc at hl; omega) (by unfold LWc at hl; omega), e _ _ (by unfold LWc at hl; omega) (by unfold LWc at hl; omega)]
    exact a5
/-- a value is read -/
theorem readValue_spec (hl : LWc y lw) (hr : μ.2.2 30 3 = y) (hT : CT μ t K k) (hs : (t k).1 ≤ 36) {st : List Nat} {o : List (Int32 × Int32)} {kn op base : Nat} (hI : Iv base (false, k, st, o, kn, op)) (H : CE0 μ y lw st o kn op) (hv : (t k).1 = 21 → (t k).2.2.1 < 2 ^ 31) : Ok (f_X5_readValue 30 lw (nI (t k).1) μ) (fun r μ' => SO μ y lw t k (stp t (false, k, st, o, kn, op)) r μ') := by
  obtain ⟨i1, i2, i3, i4, i5, i6, i7⟩ := hI
  dsimp only at i1 i2 i3 i4 i5 i6 i7
  have ls := len_st st
  obtain ⟨a1, a2, a3, a4, a5, a6⟩ := id H
  show Ok _ (fun r μ' => SO μ y lw t k (stF t k st o kn op) r μ')
  unfold f_X5_readValue stF
  generalize hsv : (t k).1 = s at hs ⊢
  have ne : ∀ x : Nat, x < 40 → ¬ s = x → ¬ nI s = nI x := fun x hx h z => h ((nI_eq (by omega) (by omega)).mp z)
  by_cases c25 : s = 25
  · rw [if_pos (show nI s = 25 by rw [c25]; rfl), if_pos c25, a3]
    by_cases c8 : op < 8
    · rw [if_pos (show nI op < 8 from nI_lt (b := 8) c8 (by decide)), if_pos c8, Ok_vl, nI_1, await_eq (st := st) (by rw [sI_i, if_neg (by omega)]; exact a1) (by omega), bd_some, gd_t (Or.inr rfl), Ok_some]
      refine ⟨((Kx.rfl'.sI (by omega)).sI (by omega)).sI (by omega), rfl, ((Kx.rfl'.sI (by omega)).sI (by omega)).sI (by omega), ?_⟩
      exact H.push (s := 25) hl (fun k j h1 h2 => by rw [sI_i, if_neg (by omega)]) (by rw [sI_i, if_neg (by unfold LWc at hl; omega)]; exact a6) (by rw [sI_i, if_pos ⟨rfl, rfl⟩])
    · rw [if_neg (show ¬ nI op < 8 from nI_nlt (b := 8) (by omega) (by omega)), if_neg c8]
      exact ko_fail hT 2 Kx.rfl'
  · rw [if_neg (show ¬ nI s = 25 from ne 25 (by decide) c25), if_neg c25]
    have j81 : ¬ (s = 12 ∧ rkt st ≤ 3) → Ok (f_X5_readValue_j81 30 lw (nI s) μ) (fun r μ' => SO μ y lw t k (if s = 12 ∧ rkt st ≤ 3 then (if kn < 64 then .inr (false, k + 1, 12 :: st, o, kn + 1, op) else .inl 2) else if s = 21 ∨ (13 ≤ s ∧ s ≤ 19) then (if kn < 64 then (if s = 21 ∧ 9999 < (t k).2.2.1 then .inl 2 else .inr (true, k + 1, st, o ++ [(nI s, if s = 21 then nI (t k).2.2.1 else 0)], kn + 1, op)) else .inl 2) else .inl 1) r μ') := by
      intro hn
      rw [if_neg hn]
      unfold f_X5_readValue_j81 f_X5_readValue_j99
      have j105 : (s = 21 ∨ (13 ≤ s ∧ s ≤ 19)) → Ok (f_X5_readValue_j105 30 lw (nI s) μ) (fun r μ' => SO μ y lw t k (if kn < 64 then (if s = 21 ∧ 9999 < (t k).2.2.1 then .inl 2 else .inr (true, k + 1, st, o ++ [(nI s, if s = 21 then nI (t k).2.2.1 else 0)], kn + 1, op)) else .inl 2) r μ') := by
        intro hq
        unfold f_X5_readValue_j105
        by_cases ck : kn < 64
        · rw [countKnot_eq hl hr a6 ck, bd_some, if_neg (by decide), if_pos ck]
          have K1 : Kx (AEX y lw) BN μ (sI μ y 2 (nI (kn + 1))) := Kx.rfl'.sI (by omega)
          have K1y : Kx (AEY y lw) BN μ (sI μ y 2 (nI (kn + 1))) := Kx.rfl'.sI (by omega)
          have T1 := CT.ex hl hT K1
          have C1 : CL (sI μ y 2 (nI (kn + 1))) lw o := a4.of' (by rw [sI_i, if_neg (by unfold LWc at hl; omega)]) (fun k j a b => by rw [sI_i, if_neg (by unfold LWc at hl; omega)])
          have U1 : Us (sI μ y 2 (nI (kn + 1))) lw o := by
            unfold Us at a5 ⊢
            rw [sI_i, if_neg (by unfold LWc at hl; omega)]
            exact a5
          have f : ∀ k j, ¬ (k = y ∧ j = 2) → (sI μ y 2 (nI (kn + 1))).1 k j = μ.1 k j := fun k j h => by rw [sI_i, if_neg h]
          have f2 : (sI μ y 2 (nI (kn + 1))).1 y 2 = nI (kn + 1) := by rw [sI_i, if_pos ⟨rfl, rfl⟩]
          generalize sI μ y 2 (nI (kn + 1)) = μ1 at K1 K1y T1 C1 U1 f f2 ⊢
          have fin : ∀ v : Int32, Ok (f_X5_readValue_j158 lw (nI s) v μ1) (fun r μ' => SO μ y lw t k (.inr (true, k + 1, st, o ++ [(nI s, v)], kn + 1, op)) r μ') := by
            intro v
            unfold f_X5_readValue_j158
            rw [Ok_bd]
            refine (lwadd_spec C1 U1 (by omega) hs v).mono ?_
            rintro - μ2 ⟨c2, u2, K2⟩
            rw [gd_t (Or.inr rfl), Ok_some]
            refine ⟨K1.trans (K2.wide (fun k j h => Or.inr (Or.inr (Or.inl h))) (fun _ _ h => h)), rfl, K1y.trans (K2.wide (fun k j h => Or.inr (Or.inr (Or.inl h))) (fun _ _ h => h)), ?_, ?_, ?_, c2, u2, ?_⟩
            · show μ2.1 30 6 = _
              rw [K2.2.1 30 6 (by unfold LWc at hl; omega), f _ _ (by unfold LWc at hl; omega)]; exact a1
            · exact CW.of (fun j => by rw [K2.2.1 65 j (by unfold LWc at hl; omega), f _ _ (by unfold LWc at hl; omega)]) a2
            · show μ2.1 30 7 = _
              rw [K2.2.1 30 7 (by unfold LWc at hl; omega), f _ _ (by unfold LWc at hl; omega)]; exact a3
            · show μ2.1 y 2 = _
              rw [K2.2.1 y 2 (by unfold LWc at hl; omega)]; exact f2
          have tv : μ1.1 31 2 = nI (t k).2.2.1 := T1.2.2.2.2.2
          by_cases c21 : s = 21
          · rw [if_pos (show nI s = 21 by rw [c21]; rfl)]
            unfold f_X5_readValue_j139
            simp only [Nat.reduceAdd]
            rw [tv, if_pos (show nI s = 21 by rw [c21]; rfl), if_pos c21]
            rcases Nat.lt_or_ge 9999 (t k).2.2.1 with z | z
            · rw [if_neg (show ¬ nI (t k).2.2.1 ≤ 9999 from nI_ge (a := 9999) z (hv (by rw [hsv]; exact c21))), if_pos ⟨c21, z⟩]
              exact ko_fail T1 2 K1
            · rw [if_pos (show nI (t k).2.2.1 ≤ 9999 from nI_le (b := 9999) z (by decide)), if_neg (by omega)]
              exact fin _
          · rw [if_neg (show ¬ nI s = 21 from ne 21 (by decide) c21)]
            unfold f_X5_readValue_j139
            rw [if_neg (show ¬ nI s = 21 from ne 21 (by decide) c21), if_neg (fun z => c21 z.1), if_neg c21]
            exact fin 0
        · rw [countKnot_full hl hr a6 ck i2, if_neg ck]
          obtain ⟨μ', e, K1, e0, e1⟩ := fail_eq hT 2
          rw [e, bd_some, gd_t (Or.inl rfl), bd_some, if_pos rfl, gd_t (Or.inl rfl), Ok_some]
          exact ⟨K1.wide (fun k j h => by omega) (fun _ _ h => h), rfl, e0, e1⟩
      by_cases c21 : s = 21
      · rw [if_pos (show nI s = 21 by rw [c21]; rfl), if_pos (Or.inl c21)]
        exact j105 (Or.inl c21)
      · rw [if_neg (show ¬ nI s = 21 from ne 21 (by decide) c21)]
        rcases Nat.lt_or_ge s 13 with z | z
        · rw [if_pos (show nI s < 13 from nI_lt (b := 13) z (by decide)), if_neg (by omega)]
          exact ko_fail hT 1 Kx.rfl'
        · rw [if_neg (show ¬ nI s < 13 from nI_nlt (b := 13) z (by omega))]
          rcases Nat.lt_or_ge 19 s with z2 | z2
          · rw [if_neg (show ¬ nI s ≤ 19 from nI_ge (a := 19) z2 (by omega)), if_neg (by omega)]
            exact ko_fail hT 1 Kx.rfl'
          · rw [if_pos (show nI s ≤ 19 from nI_le (b := 19) z2 (by decide)), if_pos (Or.inr ⟨z, z2⟩)]
            exact j105 (Or.inr ⟨z, z2⟩)
    by_cases c12 : s = 12
    · have hh := headD_le i5
      rw [if_pos (show nI s = 12 by rw [c12]; rfl), latest_eq a1 a2 (by omega), bd_some, rank_eq hh.1, bd_some, show f_X5_rank 12 μ = some (3, μ) from rfl, bd_some, hh.2]
      have r36 : rkt st ≤ 6 := by
        rw [← hh.2]
        unfold rk
        repeat' split
        all_goals omega
      by_cases q : rkt st ≤ 3
      · rw [if_neg (show ¬ 3 < nI (rkt st) from nI_nlt (a := 3) q (by decide)), if_pos ⟨c12, q⟩]
        by_cases ck : kn < 64
        · rw [countKnot_eq hl hr a6 ck, bd_some, if_neg (by decide), if_pos ck, await_eq (st := st) (by rw [sI_i, if_neg (by unfold LWc at hl; omega)]; exact a1) (by omega), bd_some, if_neg (by decide), gd_t (Or.inr rfl), Ok_some]
          refine ⟨((Kx.rfl'.sI (by omega)).sI (by omega)).sI (by omega), rfl, ((Kx.rfl'.sI (by omega)).sI (by omega)).sI (by omega), ?_⟩
          exact H.push (s := 12) hl (fun k j h1 h2 => by rw [sI_i, if_neg (by omega)]) (by rw [sI_i, if_pos ⟨rfl, rfl⟩]) (by rw [sI_i, if_neg (by unfold LWc at hl; omega)]; exact a3)
        · rw [countKnot_full hl hr a6 ck i2, if_neg ck]
          obtain ⟨μ', e, K1, e0, e1⟩ := fail_eq hT 2
          rw [e, bd_some, gd_t (Or.inl rfl), bd_some, if_pos rfl, gd_t (Or.inl rfl), Ok_some]
          exact ⟨K1.wide (fun k j h => by omega) (fun _ _ h => h), rfl, e0, e1⟩
      · rw [if_pos (show 3 < nI (rkt st) from nI_lt (a := 3) (by omega) (by omega))]
        exact j81 fun z => q z.2
    · rw [if_neg (show ¬ nI s = 12 from ne 12 (by decide) c12)]
      exact j81 fun z => c12 z.1
end CExp
