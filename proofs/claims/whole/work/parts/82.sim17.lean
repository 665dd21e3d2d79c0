/-! the rests as the reference finds them -/
section Sim17
def LM (ν : fMem) (V : HV) (g : Int32) (ts : Nat → Int32) (S : SV) : Prop := ∀ f, f < 2 → ∀ r, r < V.1 0 → ν.1 212 (6 * f + r) = wS V g ts S f r
theorem hasOf_eq {ν : fMem} {V : HV} {g : Int32} {ts : Nat → Int32} {S : SV} (hV : HW V) (mH : MH ν V) (mS : MSt ν 0 V S 0 (-1)) (L : LM ν V g ts S) {f a b : Nat} (hf : f < 2) (ha : a < V.1 0) (hb : b < 6) : f_X11_hasOf 181 (nI f) (nI a) (nI b) ν = some (shS V g ts S f a b, ν) := by
  have h6 : V.1 0 ≤ 6 := hV.1
  unfold f_X11_hasOf shS vl
  simp only [Nat.reduceAdd]
  rw [e6x, gd_t (ixN (by omega) (by omega)), nI_clamp (by omega), L f hf a ha]
  by_cases c : a = b
  · rw [if_pos c, if_pos (by rw [c]), thingsInM_eq mH hV mS, bd_some, bitsOf_eq, bd_some]
    rfl
  · rw [if_neg c, if_neg (fun w => c ((nI_eq (by omega) (by omega)).mp w))]
theorem allB_and {p q : Nat → Bool} : ∀ n, (allB p n && allB q n) = allB (fun i => p i && q i) n
  | 0 => rfl
  | n + 1 => by
    show ((allB p n && p n) && (allB q n && q n)) = (allB (fun i => p i && q i) n && (p n && q n))
    rw [← allB_and n]
    cases allB p n <;> cases allB q n <;> cases p n <;> cases q n <;> rfl
theorem isRest_eq {ν : fMem} {V : HV} {g : Int32} {ts : Nat → Int32} {S : SV} (hV : HW V) (mH : MH ν V) (mS : MSt ν 0 V S 0 (-1)) (L : LM ν V g ts S) {a b : Nat} (ha : a < V.1 0) (hb : b < V.1 0) : f_X11_isRest 181 (nI a) (nI b) ν = some ((if rB V g ts S a b = true then 1 else 0), ν) := by
  have h6 : V.1 0 ≤ 6 := hV.1
  have er : rB V g ts S a b = allB (fun k => decide (shS V g ts S 0 k b ≤ shS V g ts S 0 a b) && decide (shS V g ts S 1 k a ≤ shS V g ts S 1 b a)) (V.1 0) := by
    unfold rB bsB
    rw [allB_and]
  have key : Ok (f_X11_isRest 181 (nI a) (nI b) ν) (fun r ν' => r = (if rB V g ts S a b = true then 1 else 0) ∧ ν' = ν) := by
    unfold f_X11_isRest
    rw [er, Ok_bd]
    generalize hP : (fun k => decide (shS V g ts S 0 k b ≤ shS V g ts S 0 a b) && decide (shS V g ts S 1 k a ≤ shS V g ts S 1 b a)) = P
    refine Ok.mono (Q := fun u (q : Int32 × fMem) => q.2 = ν ∧ ((u = 0 ∧ allB P (V.1 0) = true) ∨ (¬ u = 0 ∧ allB P (V.1 0) = false))) (Ok_lp (V.1 0) (fun i (q : Int32 × fMem) => q.1 = nI i ∧ q.2 = ν ∧ allB P i = true) (by omega) ⟨rfl, rfl, rfl⟩ ?_) ?_
    · rintro i ⟨z, ν1⟩ hi ⟨hz, hm, hA⟩
      dsimp only at hz hm hA ⊢
      subst hz hm
      unfold f_X11_isRest_L2
      simp only [Nat.reduceAdd]
      rw [mH.1 0 (by omega)]
      rcases Nat.lt_or_ge i (V.1 0) with q | q
      · have eP : P i = (decide (shS V g ts S 0 i b ≤ shS V g ts S 0 a b) && decide (shS V g ts S 1 i a ≤ shS V g ts S 1 b a)) := by rw [← hP]
        rw [if_neg (nI_ge q (by omega)), show f_X11_hasOf 181 0 (nI i) (nI b) ν1 = some (shS V g ts S 0 i b, ν1) from hasOf_eq hV mH mS L (f := 0) (by omega) q (by omega), bd_some, show f_X11_hasOf 181 0 (nI a) (nI b) ν1 = some (shS V g ts S 0 a b, ν1) from hasOf_eq hV mH mS L (f := 0) (by omega) ha (by omega), bd_some]
        by_cases c : shS V g ts S 0 i b ≤ shS V g ts S 0 a b
        · rw [if_neg (Int32.not_lt.mpr c), show f_X11_hasOf 181 1 (nI i) (nI a) ν1 = some (shS V g ts S 1 i a, ν1) from hasOf_eq hV mH mS L (f := 1) (by omega) q (by omega), bd_some, show f_X11_hasOf 181 1 (nI b) (nI a) ν1 = some (shS V g ts S 1 b a, ν1) from hasOf_eq hV mH mS L (f := 1) (by omega) hb (by omega), bd_some]
          by_cases c2 : shS V g ts S 1 i a ≤ shS V g ts S 1 b a
          · rw [if_pos c2, Ok_vl, nI_1, Ok_some]
            exact Or.inl ⟨rfl, q, rfl, rfl, allB_step hA (by rw [eP, decide_eq_true c, decide_eq_true c2]; rfl)⟩
          · rw [if_neg c2, Ok_some]
            exact Or.inr ⟨1, rfl, rfl, Or.inr ⟨by decide, allB_fail (by rw [eP, decide_eq_false c2, Bool.and_false]) _ q⟩⟩
        · rw [if_pos (Int32.not_le.mp c), Ok_some]
          exact Or.inr ⟨1, rfl, rfl, Or.inr ⟨by decide, allB_fail (by rw [eP, decide_eq_false c, Bool.false_and]) _ q⟩⟩
      · rw [if_pos (nI_le q (by omega)), Ok_some]
        have : i = V.1 0 := by omega
        subst this
        exact Or.inr ⟨0, rfl, rfl, Or.inl ⟨rfl, hA⟩⟩
    · rintro u ⟨z, ν1⟩ ⟨hm, hq⟩
      dsimp only at hm hq ⊢
      subst hm
      rcases hq with ⟨rfl, h⟩ | ⟨hu, h⟩
      · rw [if_pos rfl, gd_t (Or.inr rfl), Ok_some, h]; exact ⟨rfl, rfl⟩
      · rw [if_neg hu, gd_t (Or.inl rfl), Ok_some, h]; exact ⟨rfl, rfl⟩
  obtain ⟨x, y, e, rfl, rfl⟩ := key
  exact e
theorem pre_w {p : Nat → Nat → Bool} {a b : Nat} : ∀ {c : Nat}, b ≤ c → ∃ t, rwL p a c = rwL p a b ++ t
  | 0, h => ⟨[], by rw [show b = 0 by omega, List.append_nil]⟩
  | c + 1, h => by
    by_cases e : b = c + 1
    · exact ⟨[], by rw [e, List.append_nil]⟩
    · obtain ⟨t, ht⟩ := pre_w (p := p) (a := a) (b := b) (c := c) (by omega)
      exact ⟨t ++ (if p a c = true then [nI (10 * a + c)] else []), by rw [← List.append_assoc, ← ht]; rfl⟩
theorem pre_l {p : Nat → Nat → Bool} {R a : Nat} : ∀ {c : Nat}, a ≤ c → ∃ t, rlL p R c = rlL p R a ++ t
  | 0, h => ⟨[], by rw [show a = 0 by omega, List.append_nil]⟩
  | c + 1, h => by
    by_cases e : a = c + 1
    · exact ⟨[], by rw [e, List.append_nil]⟩
    · obtain ⟨t, ht⟩ := pre_l (p := p) (R := R) (a := a) (c := c) (by omega)
      exact ⟨t ++ rwL p c R, by rw [← List.append_assoc, ← ht]; rfl⟩
theorem nth_l {p : Nat → Nat → Bool} {R a b : Nat} (ha : a < R) (hb : b < R) (h : p a b = true) : (rlL p R R)[(rlL p R a ++ rwL p a b).length]? = some (nI (10 * a + b)) := by
  obtain ⟨t1, e1⟩ := pre_w (p := p) (a := a) (b := b + 1) (c := R) (by omega)
  obtain ⟨t2, e2⟩ := pre_l (p := p) (R := R) (a := a + 1) (c := R) (by omega)
  have e3 : rwL p a (b + 1) = rwL p a b ++ [nI (10 * a + b)] := by
    show rwL p a b ++ (if p a b = true then [nI (10 * a + b)] else []) = _
    rw [if_pos h]
  have e4 : rlL p R (a + 1) = rlL p R a ++ rwL p a R := rfl
  rw [e2, e4, e1, e3]
  have : rlL p R a ++ (rwL p a b ++ [nI (10 * a + b)] ++ t1) ++ t2 = (rlL p R a ++ rwL p a b) ++ (nI (10 * a + b) :: (t1 ++ t2)) := by simp
  rw [this, List.getElem?_append_right (Nat.le_refl _), Nat.sub_self]
  rfl
def ansR (L : List Int32) (k : Int32) : Int32 := if k = -1 then nI L.length else (L[k.toNatClampNeg]?).getD (-2)
abbrev AR (c j : Nat) : Prop := A0 c j ∨ c = 212
theorem AR.r {ν ν' : fMem} (K : Kx AR B0 ν ν') : KR ν ν' := K.wide (fun c j z => z.elim (fun w => Or.inl ⟨w.1, Or.inr (Or.inl w.2)⟩) (fun w => Or.inr (Or.inr (Or.inl (by omega))))) (fun _ _ z => z)
theorem rest35 {ν : fMem} {V : HV} {S : SV} {X : RX} {g : Int32} {ts : Nat → Int32} (hg : g = glassS V (S 6 0)) (hts : ts = V.2.1 3) (hV : HW V) (hS : SR V S) (hX : XW V X) (M : RM ν V S X) {d fa : Nat} (hd : d < V.1 3) (hfa : fa < 2) (efa : V.2.1 5 d = nI fa) (k : Int32) : Ok (lpn (fun (q : Int32 × fMem) => f_X11_restOf_L35 181 k (nI d) q.1 q.2) fuel ((0 : Int32), ν)) (fun _ q => Kx AR B0 ν q.2 ∧ ∀ f, f < 2 → ∀ r, r < V.1 0 → q.2.1 212 (6 * f + r) = ν.1 212 (6 * f + r) + if V.2.1 5 d = nI f then likeR V g ts S d r else 0) := by
  have h6 : V.1 0 ≤ 6 := hV.1
  have hd6 : V.1 3 ≤ 6 := hV.2.2.2.1
  refine Ok.mono (Q := fun u (q : Int32 × fMem) => Kx AR B0 ν q.2 ∧ ∀ f, f < 2 → ∀ r, r < V.1 0 → q.2.1 212 (6 * f + r) = ν.1 212 (6 * f + r) + if V.2.1 5 d = nI f ∧ r < V.1 0 then likeR V g ts S d r else 0) (Ok_lp (V.1 0) (fun i (q : Int32 × fMem) => q.1 = nI i ∧ Kx AR B0 ν q.2 ∧ ∀ f, f < 2 → ∀ r, r < V.1 0 → q.2.1 212 (6 * f + r) = ν.1 212 (6 * f + r) + if V.2.1 5 d = nI f ∧ r < i then likeR V g ts S d r else 0) (by omega) ⟨rfl, Kx.rfl', fun f _ r _ => by rw [if_neg (by omega), Int32.add_zero]⟩ ?_) ?_
  · rintro i ⟨z, ν1⟩ hi ⟨hz, K1, e1⟩
    dsimp only at hz K1 e1 ⊢
    subst hz
    have M1 := M.kr hV hX (AR.r K1)
    unfold f_X11_restOf_L35
    simp only [Nat.reduceAdd]
    rw [M1.1.1 0 (by omega)]
    rcases Nat.lt_or_ge i (V.1 0) with q | q
    · have ix : ixo (nI (6 * fa + i)) 12 := ixN (by omega) (by omega)
      have fa1 := (M1.1.2.2.2.1 d hd).2.2.1
      rw [if_neg (nI_ge q (by omega)), gd_t (ixN (by omega) (by omega)), nI_clamp (by omega), fa1.trans efa, e6x]
      simp only [gd_t ix]
      rw [nI_clamp (by omega), Ok_bd]
      have M1s := M1.mrs hV hS
      rw [← hg, ← hts] at M1s
      refine (likingFor_spec M1s hd (show i < 6 by omega)).mono ?_
      rintro y ν2 ⟨rfl, K2⟩
      rw [Ok_vl, Ok_vl, nI_1, Ok_some]
      refine Or.inl ⟨rfl, q, rfl, (K1.trans (K2.wide (fun _ _ z => Or.inl z) (fun _ _ z => z))).sI (Or.inr rfl), fun f hf r hr => ?_⟩
      rw [sI_i]
      have o1 : ν2.1 212 (6 * f + r) = ν1.1 212 (6 * f + r) := K2.2.1 _ _ (by omega)
      by_cases c : f = fa ∧ r = i
      · obtain ⟨rfl, rfl⟩ := c
        rw [if_pos ⟨rfl, rfl⟩, e1 f hf r hr, if_neg (by omega), Int32.add_zero, if_pos ⟨efa, by omega⟩]
      · rw [if_neg (by omega), o1, e1 f hf r hr]
        congr 1
        by_cases cf : V.2.1 5 d = nI f
        · have : f = fa := (nI_eq (by omega) (by omega)).mp (cf.symm.trans efa)
          by_cases cr : r < i
          · rw [if_pos ⟨cf, cr⟩, if_pos ⟨cf, by omega⟩]
          · rw [if_neg (fun w => cr w.2), if_neg (fun w => by omega)]
        · rw [if_neg (fun w => cf w.1), if_neg (fun w => cf w.1)]
    · rw [if_pos (nI_le q (by omega)), Ok_some]
      have : i = V.1 0 := by omega
      subst this
      exact Or.inr ⟨0, rfl, K1, e1⟩
  · rintro u ⟨z, ν1⟩ ⟨K1, e1⟩
    refine ⟨K1, fun f hf r hr => ?_⟩
    rw [e1 f hf r hr]
    congr 1
    by_cases cf : V.2.1 5 d = nI f
    · rw [if_pos ⟨cf, hr⟩, if_pos cf]
    · rw [if_neg (fun w => cf w.1), if_neg cf]
theorem rest100 {ν : fMem} {V : HV} {g : Int32} {ts : Nat → Int32} {S : SV} (hV : HW V) (mH : MH ν V) (mS : MSt ν 0 V S 0 (-1)) (L : LM ν V g ts S) {a : Nat} (ha : a < V.1 0) (k : Int32) (hk : ∀ i, i < (rlL (rB V g ts S) (V.1 0) a).length → ¬ nI i = k) : Ok (lpn (fun (q : Int32 × Int32 × fMem) => f_X11_restOf_L100 181 k (nI a) q.1 q.2.1 q.2.2) fuel (nI (rlL (rB V g ts S) (V.1 0) a).length, (0 : Int32), ν)) (fun u q => q.2.2 = ν ∧ ((u = 0 ∧ q.1 = nI (rlL (rB V g ts S) (V.1 0) (a + 1)).length ∧ ∀ i, i < (rlL (rB V g ts S) (V.1 0) (a + 1)).length → ¬ nI i = k) ∨ (¬ u = 0 ∧ ∃ b i, q.2.1 = nI b ∧ k = nI i ∧ i < 36 ∧ (rlL (rB V g ts S) (V.1 0) (V.1 0))[i]? = some (nI (10 * a + b))))) := by
  have h6 : V.1 0 ≤ 6 := hV.1
  refine Ok_lp (V.1 0) (fun b (q : Int32 × Int32 × fMem) => q.2.1 = nI b ∧ q.2.2 = ν ∧ q.1 = nI (rlL (rB V g ts S) (V.1 0) a ++ rwL (rB V g ts S) a b).length ∧ ∀ i, i < (rlL (rB V g ts S) (V.1 0) a ++ rwL (rB V g ts S) a b).length → ¬ nI i = k) (by omega) ⟨rfl, rfl, by rw [show rwL (rB V g ts S) a 0 = [] from rfl, List.append_nil], by rw [show rwL (rB V g ts S) a 0 = [] from rfl, List.append_nil]; exact hk⟩ ?_
  rintro b ⟨n, z, ν1⟩ hb ⟨hz, hm, hn, hk1⟩
  dsimp only at hz hm hn hk1 ⊢
  subst hz hm hn
  unfold f_X11_restOf_L100
  simp only [Nat.reduceAdd]
  rw [mH.1 0 (by omega)]
  have un : ∀ c : Bool, rB V g ts S a b = c → rwL (rB V g ts S) a (b + 1) = rwL (rB V g ts S) a b ++ (if c = true then [nI (10 * a + b)] else []) := by rintro c rfl; rfl
  rcases Nat.lt_or_ge b (V.1 0) with q | q
  · have l36 := rl36 (p := rB V g ts S) h6 ha q
    rw [if_neg (nI_ge q (by omega)), isRest_eq hV mH mS L ha q, bd_some]
    cases c : rB V g ts S a b with
    | false =>
      rw [if_pos (show (if false = true then (1 : Int32) else 0) = 0 by decide), Ok_vl, nI_1, Ok_some]
      refine Or.inl ⟨rfl, q, rfl, rfl, ?_, ?_⟩
      · rw [un false c, if_neg (by decide), List.append_nil]
      · rw [un false c, if_neg (by decide), List.append_nil]; exact hk1
    | true =>
      rw [if_neg (show ¬ (if true = true then (1 : Int32) else 0) = 0 by decide)]
      by_cases ck : nI (rlL (rB V g ts S) (V.1 0) a ++ rwL (rB V g ts S) a b).length = k
      · rw [if_pos ck, Ok_some]
        exact Or.inr ⟨1, rfl, rfl, Or.inr ⟨by decide, b, _, rfl, ck.symm, l36, nth_l ha q c⟩⟩
      · have e : (rlL (rB V g ts S) (V.1 0) a ++ rwL (rB V g ts S) a (b + 1)).length = (rlL (rB V g ts S) (V.1 0) a ++ rwL (rB V g ts S) a b).length + 1 := by
          rw [un true c, if_pos rfl, ← List.append_assoc, List.length_append]; rfl
        rw [if_neg ck, Ok_vl, Ok_vl, nI_1, nI_1, Ok_some]
        refine Or.inl ⟨rfl, q, rfl, rfl, by rw [e], fun i hi => ?_⟩
        rw [e] at hi
        by_cases ei : i = (rlL (rB V g ts S) (V.1 0) a ++ rwL (rB V g ts S) a b).length
        · rw [ei]; exact ck
        · exact hk1 i (by omega)
  · rw [if_pos (nI_le q (by omega)), Ok_some]
    have : b = V.1 0 := by omega
    subst this
    exact Or.inr ⟨0, rfl, rfl, Or.inl ⟨rfl, rfl, hk1⟩⟩
theorem restOf_spec {ν : fMem} {V : HV} {S : SV} {X : RX} (hV : HW V) (hS : SR V S) (hX : XW V X) (M : RM ν V S X) (k : Int32) (hk : k = -1 ∨ ¬ k < 0) : Ok (f_X11_restOf 181 k ν) (fun r ν' => r = ansR (rlL (rB V (glassS V (S 6 0)) (V.2.1 3) S) (V.1 0) (V.1 0)) k ∧ KR ν ν') := by
  have h6 : V.1 0 ≤ 6 := hV.1
  have hd6 : V.1 3 ≤ 6 := hV.2.2.2.1
  generalize hg : glassS V (S 6 0) = g
  generalize hts : V.2.1 3 = ts
  unfold f_X11_restOf
  rw [Ok_bd]
  refine Ok.mono (Q := fun u (q : Int32 × fMem) => Kx AR B0 ν q.2 ∧ ∀ j, j < 12 → q.2.1 212 j = 0) (Ok_lp 12 (fun i (q : Int32 × fMem) => q.1 = nI i ∧ Kx AR B0 ν q.2 ∧ ∀ j, j < i → q.2.1 212 j = 0) (by omega) ⟨rfl, Kx.rfl', fun j hj => by omega⟩ ?_) ?_
  · rintro i ⟨z, ν1⟩ hi ⟨hz, K1, e1⟩
    dsimp only at hz K1 e1 ⊢
    subst hz
    unfold f_X11_restOf_L2
    simp only [Nat.reduceAdd]
    rcases Nat.lt_or_ge i 12 with q | q
    · rw [if_neg (show ¬ 12 ≤ nI i from nI_ge (b := 12) q (by omega)), gd_t (ixN q (by omega)), nI_clamp (by omega), Ok_vl, Ok_vl, nI_1, Ok_some]
      refine Or.inl ⟨rfl, q, rfl, K1.sI (Or.inr rfl), fun j hj => ?_⟩
      rw [sI_i]
      by_cases e : j = i
      · rw [if_pos ⟨rfl, e⟩]
      · rw [if_neg (fun w => e w.2)]; exact e1 j (by omega)
    · have : i = 12 := by omega
      subst this
      rw [if_pos (show 12 ≤ nI 12 by decide), Ok_some]
      exact Or.inr ⟨0, rfl, K1, e1⟩
  · rintro u ⟨z, ν1⟩ ⟨K1, e1⟩
    dsimp only at K1 e1 ⊢
    rw [Ok_bd]
    refine Ok.mono (Q := fun u (q : Int32 × fMem) => Kx AR B0 ν q.2 ∧ LM q.2 V g ts S) (Ok_lp (V.1 3) (fun i (q : Int32 × fMem) => q.1 = nI i ∧ Kx AR B0 ν q.2 ∧ ∀ f, f < 2 → ∀ r, r < V.1 0 → q.2.1 212 (6 * f + r) = sumN i (fun d => if V.2.1 5 d = nI f then likeR V g ts S d r else 0)) (by omega) ⟨rfl, K1, fun f hf r hr => e1 _ (by omega)⟩ ?_) ?_
    · rintro i ⟨z, ν2⟩ hi ⟨hz, K2, e2⟩
      dsimp only at hz K2 e2 ⊢
      subst hz
      have M2 := M.kr hV hX (AR.r K2)
      unfold f_X11_restOf_L23
      simp only [Nat.reduceAdd]
      rw [M2.1.1 3 (by omega)]
      rcases Nat.lt_or_ge i (V.1 3) with q | q
      · obtain ⟨fa, hfa, efa⟩ := (hV.2.2.2.2.2.2.2.1 i q).2.2.1
        rw [if_neg (nI_ge q (by omega)), Ok_bd]
        refine (rest35 hg.symm hts.symm hV hS hX M2 q (show fa < 2 by omega) efa k).mono ?_
        rintro u ⟨z3, ν3⟩ ⟨K3, e3⟩
        dsimp only at K3 e3 ⊢
        rw [Ok_vl, nI_1, Ok_some]
        refine Or.inl ⟨rfl, q, rfl, K2.trans K3, fun f hf r hr => ?_⟩
        rw [e3 f hf r hr, e2 f hf r hr]
        rfl
      · rw [if_pos (nI_le q (by omega)), Ok_some]
        have : i = V.1 3 := by omega
        subst this
        exact Or.inr ⟨0, rfl, K2, e2⟩
    · rintro u ⟨z, ν2⟩ ⟨K2, L2⟩
      dsimp only at K2 L2 ⊢
      have M2 := M.kr hV hX (AR.r K2)
      have l36 := rl36' (p := rB V g ts S) h6
      rw [Ok_bd]
      refine Ok.mono (Q := fun u (q : Int32 × Int32 × Int32 × fMem) => q.2.2.2 = ν2 ∧ ((u = 0 ∧ q.1 = nI (rlL (rB V g ts S) (V.1 0) (V.1 0)).length ∧ ∀ i, i < (rlL (rB V g ts S) (V.1 0) (V.1 0)).length → ¬ nI i = k) ∨ (¬ u = 0 ∧ ∃ a b i, q.2.1 = nI a ∧ q.2.2.1 = nI b ∧ k = nI i ∧ i < 36 ∧ (rlL (rB V g ts S) (V.1 0) (V.1 0))[i]? = some (nI (10 * a + b))))) (Ok_lp (V.1 0) (fun a (q : Int32 × Int32 × Int32 × fMem) => q.2.1 = nI a ∧ q.2.2.2 = ν2 ∧ q.1 = nI (rlL (rB V g ts S) (V.1 0) a).length ∧ ∀ i, i < (rlL (rB V g ts S) (V.1 0) a).length → ¬ nI i = k) (by omega) ⟨rfl, rfl, rfl, fun i hi => absurd hi (Nat.not_lt_zero i)⟩ ?_) ?_
      · rintro a ⟨n, z, w, ν3⟩ hi ⟨hz, hm, hn, hk1⟩
        dsimp only at hz hm hn hk1 ⊢
        subst hz hm hn
        unfold f_X11_restOf_L87
        simp only [Nat.reduceAdd]
        rw [M2.1.1 0 (by omega)]
        rcases Nat.lt_or_ge a (V.1 0) with q | q
        · rw [if_neg (nI_ge q (by omega)), Ok_bd]
          refine (rest100 hV M2.1 M2.2.1 L2 q k hk1).mono ?_
          rintro u ⟨x, y, ν4⟩ ⟨hm4, hq⟩
          dsimp only at hm4 hq ⊢
          subst hm4
          rcases hq with ⟨rfl, hx, hk2⟩ | ⟨hu, b, i, hy, e1, e2, e3⟩
          · rw [if_pos rfl, Ok_vl, nI_1, Ok_some]
            exact Or.inl ⟨rfl, q, rfl, rfl, hx, hk2⟩
          · rw [if_neg hu, Ok_some]
            exact Or.inr ⟨1, rfl, rfl, Or.inr ⟨by decide, a, b, i, rfl, hy, e1, e2, e3⟩⟩
        · rw [if_pos (nI_le q (by omega)), Ok_some]
          have : a = V.1 0 := by omega
          subst this
          exact Or.inr ⟨0, rfl, rfl, Or.inl ⟨rfl, rfl, hk1⟩⟩
      · rintro u ⟨n, z, w, ν3⟩ ⟨hm, hq⟩
        dsimp only at hm hq ⊢
        subst hm
        unfold ansR
        rcases hq with ⟨rfl, hn, hk1⟩ | ⟨hu, a, b, i, ha, hb, e1, e2, e3⟩
        · rw [if_pos rfl]
          by_cases km : k = -1
          · rw [if_pos km, if_pos km, Ok_some]; exact ⟨hn, AR.r K2⟩
          · rw [if_neg km, if_neg km, Ok_some]
            refine ⟨?_, AR.r K2⟩
            obtain ⟨j, hj, rfl⟩ := nI_of (hk.resolve_left km)
            rw [nI_clamp hj, List.getElem?_eq_none]
            · rfl
            · rcases Nat.lt_or_ge j (rlL (rB V g ts S) (V.1 0) (V.1 0)).length with c | c
              · exact absurd rfl (hk1 j c)
              · exact c
        · rw [if_neg hu, Ok_some, e1, if_neg (nI_nm1 (by omega)), nI_clamp (by omega), e3, ha, hb]
          refine ⟨?_, AR.r K2⟩
          rw [show (10 : Int32) = nI 10 from rfl, nI_mul, nI_add]
          rfl
theorem sim_rests : Sim Rel (f_X10_rests 0) (f_X11_rests 181) := by
  refine simQ fun μ ν V S X h hV hS hX C M => ?_
  have cc := C.2.2.2.2.2.1
  have h6 : V.1 0 ≤ 6 := hV.1
  by_cases c0 : V.1 0 = 0
  · refine ⟨-1, ?_, ?_⟩
    · unfold f_X10_rests
      refine qc_h C ?_
      rw [told0 C.2.2.2.1, bd_some, c0, if_pos (show nI 0 = 0 from rfl)]; exact qc_some cc
    · unfold f_X11_rests
      refine qm_th hV hX M fun ν1 K M => ?_
      simp only [Nat.reduceAdd]
      rw [M.1.1 0 (by omega), c0, if_pos (show nI 0 = 0 from rfl)]; exact qm_some K
  · have n0 : ¬ nI (V.1 0) = 0 := nI_ne0 (by omega) (by omega)
    refine ⟨nI (rlL (rB V (glassS V (S 6 0)) (V.2.1 3) S) (V.1 0) (V.1 0)).length, ?_, ?_⟩
    · unfold f_X10_rests
      refine qc_h C ?_
      simp only [Nat.reduceAdd]
      rw [told0 C.2.2.2.1, bd_some, if_neg n0]
      refine qc_h C ?_
      refine Ok_bd.mpr ((C.begin hV hS).mono ?_)
      rintro - μ1 ⟨C1, P1, K1, R1⟩
      rw [Ok_vl, R1.2.1, gd_t R1.kd, Ok_bd]
      refine (workS_spec C1 hS).mono ?_
      rintro - μ2 ⟨F2, K2, cc2⟩
      rw [F2.1]
      exact Ok_some.mpr ⟨rfl, K1.trans K2, cc2⟩
    · unfold f_X11_rests
      refine qm_th hV hX M fun ν1 K M => ?_
      simp only [Nat.reduceAdd]
      rw [M.1.1 0 (by omega), if_neg n0]
      refine Ok_bd.mpr ((restOf_spec hV hS hX M (-1) (Or.inl rfl)).mono ?_)
      rintro r ν2 ⟨rfl, K2⟩
      exact Ok_some.mpr ⟨by unfold ansR; rw [if_pos rfl], K.trans K2⟩
theorem sim_rest (a : Int32) : Sim Rel (f_X10_rest 0 a) (f_X11_rest 181 a) := by
  refine simQ fun μ ν V S X h hV hS hX C M => ?_
  have cc := C.2.2.2.2.2.1
  have h6 : V.1 0 ≤ 6 := hV.1
  by_cases c0 : V.1 0 = 0
  · refine ⟨-1, ?_, ?_⟩
    · unfold f_X10_rest
      refine qc_h C ?_
      rw [told0 C.2.2.2.1, bd_some, c0, if_pos (show nI 0 = 0 from rfl)]; exact qc_some cc
    · unfold f_X11_rest
      refine qm_th hV hX M fun ν1 K M => ?_
      simp only [Nat.reduceAdd]
      rw [M.1.1 0 (by omega), c0, if_pos (show nI 0 = 0 from rfl)]; exact qm_some K
  · have n0 : ¬ nI (V.1 0) = 0 := nI_ne0 (by omega) (by omega)
    by_cases a0 : 0 ≤ a
    rotate_left
    · refine ⟨-1, ?_, ?_⟩
      · unfold f_X10_rest
        refine qc_h C ?_
        rw [told0 C.2.2.2.1, bd_some, if_neg n0, if_neg a0]; exact qc_some cc
      · unfold f_X11_rest
        refine qm_th hV hX M fun ν1 K M => ?_
        simp only [Nat.reduceAdd]
        rw [M.1.1 0 (by omega), if_neg n0, if_neg a0]; exact qm_some K
    obtain ⟨j, hj, rfl⟩ := nI_of (Int32.not_lt.mpr a0)
    have l36 := rl36' (p := rB V (glassS V (S 6 0)) (V.2.1 3) S) h6
    refine ⟨ansR (rlL (rB V (glassS V (S 6 0)) (V.2.1 3) S) (V.1 0) (V.1 0)) (nI j), ?_, ?_⟩
    · unfold f_X10_rest
      refine qc_h C ?_
      simp only [Nat.reduceAdd]
      rw [told0 C.2.2.2.1, bd_some, if_neg n0, if_pos a0]
      refine qc_h C ?_
      refine Ok_bd.mpr ((C.begin hV hS).mono ?_)
      rintro - μ1 ⟨C1, P1, K1, R1⟩
      rw [Ok_vl, R1.2.1, gd_t R1.kd, Ok_bd]
      refine (workS_spec C1 hS).mono ?_
      rintro - μ2 ⟨F2, K2, cc2⟩
      rw [F2.1]
      unfold ansR
      rw [if_neg (nI_nm1 hj)]
      rcases Nat.lt_or_ge j (rlL (rB V (glassS V (S 6 0)) (V.2.1 3) S) (V.1 0) (V.1 0)).length with c | c
      · have e := List.getElem?_eq_getElem c
        rw [if_neg (nI_ge c (by omega)), gd_t (ixN (by omega) (by omega)), nI_clamp hj, F2.2 j _ e, e, Ok_some]
        exact ⟨rfl, K1.trans K2, cc2⟩
      · rw [if_pos (nI_le c hj), nI_clamp hj, List.getElem?_eq_none c, Ok_some]
        exact ⟨rfl, K1.trans K2, cc2⟩
    · unfold f_X11_rest
      refine qm_th hV hX M fun ν1 K M => ?_
      simp only [Nat.reduceAdd]
      rw [M.1.1 0 (by omega), if_neg n0, if_pos a0]
      refine Ok_bd.mpr ((restOf_spec hV hS hX M (nI j) (Or.inr (nI_pos hj))).mono ?_)
      rintro r ν2 ⟨rfl, K2⟩
      exact Ok_some.mpr ⟨rfl, K.trans K2⟩
end Sim17
