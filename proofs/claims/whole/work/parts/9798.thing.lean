/-! thing: both sides -/
def f_X10_thing (v0 : Nat) (v1 : Int32) (v2 : Int32) (μ : fMem) : Option ((Nat × Int32) × fMem) :=
  vl (μ.2.2 v0 2) fun x1 => gd (kd x1 = (4, 2)) (bd (f_X2_has x1 (2 : Int32) v1 μ) fun r4 μ3 => if r4 = 0 then some ((1, (0 : Int32)), μ3) else if v2 = 0 then gd (ixo v1 8) (some ((0, (μ3.1 ((v0 + 66) + 1) (Int32.toNatClampNeg v1))), μ3)) else if v2 = 1 then vl (μ3.2.2 v0 2) fun x5 => gd (kd x5 = (4, 2)) (gd (ixo v1 8) (some ((0, (μ3.1 (x5 + 9) (Int32.toNatClampNeg v1))), μ3))) else if v2 = 2 then vl (μ3.2.2 v0 2) fun x6 => gd (kd x6 = (4, 2)) (gd (ixo v1 8) (some ((0, (μ3.1 (x6 + 10) (Int32.toNatClampNeg v1))), μ3))) else if v2 = 3 then gd (ixo v1 8) (some ((0, (μ3.1 ((v0 + 66) + 2) (Int32.toNatClampNeg v1))), μ3)) else if v2 = 4 then gd (ixo v1 8) (some ((0, (μ3.1 ((v0 + 66) + 3) (Int32.toNatClampNeg v1))), μ3)) else some ((2, (0 : Int32)), μ3))
def SimT (Rel : fMem → fMem → Prop) (a b : Int32) : Prop := ∀ μ ν, Rel μ ν → ∃ k r μ' ν', f_X10_thing 0 a b μ = some ((k, r), μ') ∧ f_X11_thing 181 a b ν = some (r, ν') ∧ ν'.1 181 0 = nI k ∧ k ≤ 2 ∧ Rel μ' ν'
theorem sim_thing (a b : Int32) : SimT Rel a b := by
  rintro μ ν ⟨V, S, X, h, hV, hS, hX, C, M⟩
  have cH := C.2.2.2.1
  have cS := C.2.2.2.2.1
  have mH := M.1
  have mS := M.2.1
  have h8 : V.1 2 ≤ 8 := hV.2.2.1
  have fin : ∀ (k : Nat) (r : Int32), f_X10_thing 0 a b μ = some ((k, r), μ) → f_X11_thing 181 a b ν = some (r, sI ν 181 0 (nI k)) → k ≤ 2 → ∃ k r μ' ν', f_X10_thing 0 a b μ = some ((k, r), μ') ∧ f_X11_thing 181 a b ν = some (r, ν') ∧ ν'.1 181 0 = nI k ∧ k ≤ 2 ∧ Rel μ' ν' := fun k r e1 e2 hk => ⟨k, r, μ, _, e1, e2, by rw [sI_i, if_pos ⟨rfl, rfl⟩], hk, V, S, X, h, hV, hS, hX, C, M.kr hV hX (KR.thrown _)⟩
  have e2 : ∀ k : Int32, ¬ k = 0 → f_X11_thing_j27 181 a b 181 k ν = some (0, sI ν 181 0 k) := by
    intro k hk
    unfold f_X11_thing_j27
    simp only [vl]
    rw [if_neg (show ¬ (sI ν 181 0 k).1 181 0 = 0 by rw [sI_i, if_pos ⟨rfl, rfl⟩]; exact hk)]
  by_cases c : hs (V.1 2) a
  · have eC : f_X10_thing 0 a b μ = if b = 0 then gd (ixo a 8) (some ((0, μ.1 67 a.toNatClampNeg), μ)) else if b = 1 then gd (ixo a 8) (some ((0, μ.1 (h + 9) a.toNatClampNeg), μ)) else if b = 2 then gd (ixo a 8) (some ((0, μ.1 (h + 10) a.toNatClampNeg), μ)) else if b = 3 then gd (ixo a 8) (some ((0, μ.1 68 a.toNatClampNeg), μ)) else if b = 4 then gd (ixo a 8) (some ((0, μ.1 69 a.toNatClampNeg), μ)) else some ((2, 0), μ) := by
      unfold f_X10_thing
      simp only [vl, C.2.1, gd_t C.kd, has2 cH, bd_some, if_pos c, if_neg (show ¬ (1 : Int32) = 0 by decide), Nat.reduceAdd]
    have eM : f_X11_thing 181 a b ν = if b < 0 then some (0, sI ν 181 0 2) else if b ≤ 4 then f_X11_thing_j27 181 a b 181 0 ν else some (0, sI ν 181 0 2) := by
      unfold f_X11_thing f_X11_thing_j22
      simp only [isThing_eq mH, bd_some, if_pos c, if_neg (show ¬ (1 : Int32) = 0 by decide), e2 2 (by decide)]
    obtain ⟨t, ht, rfl⟩ := hs_ex c (by omega)
    simp only [gd_t (show ixo (nI t) 8 from ixN (by omega) (by omega)), nI_clamp (show t < 2 ^ 31 by omega), cS.1 t ht, cS.2.1 t (show t < 8 by omega), cS.2.2.1 t (show t < 8 by omega), (cH.2.2.1 t ht).2.1, (cH.2.2.1 t ht).2.2] at eC
    have s0 := mS.1 t ht
    rw [if_neg (fun z => absurd z.1 (by decide)), show 8 * 0 + t = t by omega] at s0
    have s1 := mS.2.1 t (by omega)
    have s2 := mS.2.2.1 t (by omega)
    rw [show 8 * 0 + t = t by omega] at s1 s2
    have e0 : f_X11_thing_j27 181 (nI t) b 181 0 ν = if b = 0 then some (S 0 t, sI ν 181 0 0) else if b = 1 then some (V.2.1 1 t, sI ν 181 0 0) else if b = 2 then some (V.2.1 2 t, sI ν 181 0 0) else if b = 3 then some (S 1 t, sI ν 181 0 0) else some (S 2 t, sI ν 181 0 0) := by
      unfold f_X11_thing_j27
      simp only [vl, Nat.reduceAdd]
      rw [if_pos (show (sI ν 181 0 0).1 181 0 = 0 by rw [sI_i, if_pos ⟨rfl, rfl⟩])]
      simp only [gd_t (show ixo (nI t) 184 from ixN (by omega) (by omega)), gd_t (show ixo (nI t) 16 from ixN (by omega) (by omega)), nI_clamp (show t < 2 ^ 31 by omega)]
      rw [show (sI ν 181 0 0).1 206 t = S 0 t by rw [sI_i, if_neg (by omega)]; exact s0, show (sI ν 181 0 0).1 207 t = S 1 t by rw [sI_i, if_neg (by omega)]; exact s1, show (sI ν 181 0 0).1 208 t = S 2 t by rw [sI_i, if_neg (by omega)]; exact s2, show (sI ν 181 0 0).1 189 t = V.2.1 1 t by rw [sI_i, if_neg (by omega)]; exact (mH.2.2.1 t ht).2.1, show (sI ν 181 0 0).1 190 t = V.2.1 2 t by rw [sI_i, if_neg (by omega)]; exact (mH.2.2.1 t ht).2.2]
    by_cases b0 : b < 0
    · rw [if_pos b0] at eM
      have hb : ∀ v : Int32, ¬ v < 0 → ¬ b = v := fun v hv z => hv (by rw [← z]; exact b0)
      rw [if_neg (hb 0 (by decide)), if_neg (hb 1 (by decide)), if_neg (hb 2 (by decide)), if_neg (hb 3 (by decide)), if_neg (hb 4 (by decide))] at eC
      exact fin 2 0 eC eM (by decide)
    · rw [if_neg b0] at eM
      obtain ⟨j, hj, rfl⟩ := nI_of b0
      have hv : ∀ n, n < 5 → (nI j = nI n ↔ j = n) := fun n hn => nI_eq hj (by omega)
      have l4 : nI j ≤ (4 : Int32) ↔ j ≤ 4 := nI_leI (b := 4) hj (by decide)
      by_cases j4 : j ≤ 4
      · rw [if_pos (l4.mpr j4), e0] at eM
        rcases (show j = 0 ∨ j = 1 ∨ j = 2 ∨ j = 3 ∨ j = 4 by omega) with rfl | rfl | rfl | rfl | rfl
        · exact fin 0 _ (eC.trans (if_pos rfl)) (eM.trans (if_pos rfl)) (by decide)
        · exact fin 0 _ (eC.trans ((if_neg (by decide)).trans (if_pos rfl))) (eM.trans ((if_neg (by decide)).trans (if_pos rfl))) (by decide)
        · exact fin 0 _ (eC.trans ((if_neg (by decide)).trans ((if_neg (by decide)).trans (if_pos rfl)))) (eM.trans ((if_neg (by decide)).trans ((if_neg (by decide)).trans (if_pos rfl)))) (by decide)
        · exact fin 0 _ (eC.trans ((if_neg (by decide)).trans ((if_neg (by decide)).trans ((if_neg (by decide)).trans (if_pos rfl))))) (eM.trans ((if_neg (by decide)).trans ((if_neg (by decide)).trans ((if_neg (by decide)).trans (if_pos rfl))))) (by decide)
        · exact fin 0 _ (eC.trans ((if_neg (by decide)).trans ((if_neg (by decide)).trans ((if_neg (by decide)).trans ((if_neg (by decide)).trans (if_pos rfl)))))) (eM.trans ((if_neg (by decide)).trans ((if_neg (by decide)).trans ((if_neg (by decide)).trans (if_neg (by decide)))))) (by decide)
      · rw [if_neg (fun z => j4 (l4.mp z))] at eM
        have hn : ∀ n, n < 5 → ¬ nI j = nI n := fun n hn z => j4 (by have := (hv n hn).mp z; omega)
        rw [if_neg (show ¬ nI j = 0 from hn 0 (by omega)), if_neg (show ¬ nI j = 1 from hn 1 (by omega)), if_neg (show ¬ nI j = 2 from hn 2 (by omega)), if_neg (show ¬ nI j = 3 from hn 3 (by omega)), if_neg (show ¬ nI j = 4 from hn 4 (by omega))] at eC
        exact fin 2 0 eC eM (by decide)
  · refine fin 1 0 ?_ ?_ (by decide)
    · unfold f_X10_thing
      simp only [vl, C.2.1, gd_t C.kd, has2 cH, bd_some, if_neg c, if_true]
    · unfold f_X11_thing
      simp only [isThing_eq mH, bd_some, if_neg c, if_true, e2 1 (by decide)]
      rfl
