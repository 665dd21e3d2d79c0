/-! two factions who choose rooms -/
section Sim16
theorem Crs.kw {μ μ' : fMem} {V : HV} {h : Nat} {S : SV} {g : Int32} {ts : Nat → Int32} {A : List Nat} (C : Crs μ V h 66 S g ts) (K : Kp A sB μ μ') (hA : ∀ k ∈ A, k = 122 ∨ 134 ≤ k) (cc : CC μ' V) : Crs μ' V h 66 S g ts := by
  obtain ⟨c1, c2, c3, c4, c5, c6⟩ := C
  have hh := c5.1
  have e : ∀ k, ¬ (k = 122 ∨ 134 ≤ k) → μ'.1 k = μ.1 k := fun k hk => K.2.1 k (fun z => hk (hA k z))
  exact ⟨c1, c2, c3.of fun k a b => e k (by rcases hh with rfl | rfl <;> omega), c4.of fun k a b => e k (by omega), c5.of (e 84 (by omega)) (K.2.2 84 (by decide)) K.1, cc⟩
theorem KE.kw {μ μ' : fMem} {A : List Nat} (K : Kp A sB μ μ') (hA : ∀ k ∈ A, k = 122 ∨ 134 ≤ k) : KE μ μ' := KE.kp K (fun k hk => by have := hA k hk; omega)
theorem sumN_add {f g : Nat → Int32} : ∀ n, sumN n (fun i => f i + g i) = sumN n f + sumN n g
  | 0 => rfl
  | n + 1 => by
    show sumN n (fun i => f i + g i) + (f n + g n) = sumN n f + f n + (sumN n g + g n)
    rw [sumN_add n, Int32.add_assoc, Int32.add_assoc]
    congr 1
    rw [← Int32.add_assoc, ← Int32.add_assoc, Int32.add_comm (sumN n g) (f n)]
theorem sumN_0 : ∀ n, sumN n (fun _ => 0) = 0
  | 0 => rfl
  | n + 1 => by show sumN n (fun _ => 0) + 0 = 0; rw [sumN_0 n]; rfl
theorem sumN_if {c : Prop} [Decidable c] {f : Nat → Int32} {n : Nat} : (if c then sumN n f else 0) = sumN n (fun i => if c then f i else 0) := by
  by_cases h : c
  · rw [if_pos h]; exact sumN_congr fun i _ => by rw [if_pos h]
  · rw [if_neg h]; exact (sumN_0 n).symm.trans (sumN_congr fun i _ => (if_neg h).symm)
theorem sumN_swap {F : Nat → Nat → Int32} {m : Nat} : ∀ n, sumN n (fun t => sumN m (F t)) = sumN m (fun d => sumN n (fun t => F t d))
  | 0 => (sumN_0 m).symm
  | n + 1 => by
    show sumN n (fun t => sumN m (F t)) + sumN m (F n) = sumN m (fun d => sumN n (fun t => F t d) + F n d)
    rw [sumN_swap n, sumN_add]
section Defs
variable (V : HV) (g : Int32) (ts : Nat → Int32) (S : SV)
/-- a faction's liking for a room -/
def wS (f r : Nat) : Int32 := sumN (V.1 3) fun d => if V.2.1 5 d = nI f then likeR V g ts S d r else 0
def twS (f t : Nat) : Int32 := sumN (V.1 3) fun d => if V.2.1 5 d = nI f then lkT V g ts S d t else 0
def cwR (r : Nat) : Int32 := 10 * bcS (thS V S (nI r))
def shS (f a b : Nat) : Int32 := if a = b then wS V g ts S f a - cwR V S a else wS V g ts S f a
def bsB (f a b : Nat) : Bool := allB (fun k => decide (shS V g ts S f k b ≤ shS V g ts S f a b)) (V.1 0)
def rB (a b : Nat) : Bool := bsB V g ts S 0 a b && bsB V g ts S 1 b a
end Defs
theorem wS_eq {V : HV} {g : Int32} {ts : Nat → Int32} {S : SV} (hV : HW V) {f r : Nat} (hr : r < 6) : sumN (V.1 2) (fun t => if S 0 t = nI r then twS V g ts S f t else 0) = wS V g ts S f r := by
  unfold wS twS likeR
  have e : sumN (V.1 2) (fun t => if S 0 t = nI r then sumN (V.1 3) (fun d => if V.2.1 5 d = nI f then lkT V g ts S d t else 0) else 0) = sumN (V.1 2) (fun t => sumN (V.1 3) (fun d => if S 0 t = nI r then (if V.2.1 5 d = nI f then lkT V g ts S d t else 0) else 0)) := sumN_congr fun t _ => sumN_if
  rw [e, sumN_swap]
  refine sumN_congr fun d _ => ?_
  rw [sumN_if]
  refine sumN_congr fun t _ => ?_
  by_cases c : S 0 t = nI r
  · rw [if_pos c, if_pos c]
    unfold lkT
    rw [c, nI_clamp (by omega)]
  · rw [if_neg c, if_neg c]; split <;> rfl
theorem cw_eq {V : HV} {S : SV} (hV : HW V) {r : Nat} : sumN (V.1 2) (fun t => if S 0 t = nI r then 10 else 0) = cwR V S r := by
  have h8 : V.1 2 ≤ 8 := hV.2.2.1
  have key : ∀ n, sumN n (fun t => if S 0 t = nI r then (10 : Int32) else 0) = nI (10 * cnt (fun t => decide (S 0 t = nI r)) n) := by
    intro n
    induction n with
    | zero => rfl
    | succ n ih =>
      have un : cnt (fun t => decide (S 0 t = nI r)) (n + 1) = if decide (S 0 n = nI r) = true then cnt (fun t => decide (S 0 t = nI r)) n + 1 else cnt (fun t => decide (S 0 t = nI r)) n := rfl
      show sumN n (fun t => if S 0 t = nI r then (10 : Int32) else 0) + (if S 0 n = nI r then (10 : Int32) else 0) = _
      rw [ih, un]
      by_cases c : S 0 n = nI r
      · rw [if_pos c, if_pos (decide_eq_true c)]
        exact nI_add _ 10
      · rw [if_neg c, if_neg (by simp [c]), Int32.add_zero]
  rw [key]
  unfold cwR thS
  rw [bcS_or _ h8, show (10 : Int32) = nI 10 from rfl, nI_mul]
abbrev sW : List Nat := [122, 178, 179, 180]
theorem sW_ok : ∀ k ∈ sW, k = 122 ∨ 134 ≤ k := by
  intro k hk
  simp only [sW, List.mem_cons, List.not_mem_nil, or_false] at hk
  omega
theorem weighS_in {μ : fMem} {V : HV} {h : Nat} {S : SV} {g : Int32} {ts : Nat → Int32} (C : Crs μ V h 66 S g ts) {t r : Nat} (ht : t < V.1 2) (hr : r < 6) (hat : S 0 t = nI r) : Ok (lpn (fun (q : Int32 × fMem) => f_X6_weigh_L78 175 h 66 84 (nI t) (nI r) q.1 q.2) fuel ((0 : Int32), μ)) (fun _ q => Kp sW sB μ q.2 ∧ CC q.2 V ∧ q.2.1 180 = μ.1 180 ∧ ∀ f, f < 2 → ∀ j, j < 6 → q.2.1 (178 + f) j = μ.1 (178 + f) j + if j = r then twS V g ts S f t else 0) := by
  have h6 : V.1 3 ≤ 6 := C.1.2.2.2.1
  have hh := C.2.2.2.2.1.1
  refine Ok.mono (Q := fun u (q : Int32 × fMem) => Kp sW sB μ q.2 ∧ CC q.2 V ∧ q.2.1 180 = μ.1 180 ∧ ∀ f, f < 2 → ∀ j, j < 6 → q.2.1 (178 + f) j = μ.1 (178 + f) j + if j = r then sumN (V.1 3) (fun d => if V.2.1 5 d = nI f then lkT V g ts S d t else 0) else 0) (Ok_lp (V.1 3) (fun i (q : Int32 × fMem) => q.1 = nI i ∧ Kp sW sB μ q.2 ∧ CC q.2 V ∧ q.2.1 180 = μ.1 180 ∧ ∀ f, f < 2 → ∀ j, j < 6 → q.2.1 (178 + f) j = μ.1 (178 + f) j + if j = r then sumN i (fun d => if V.2.1 5 d = nI f then lkT V g ts S d t else 0) else 0) (by omega) ⟨rfl, Kp.rfl', C.2.2.2.2.2, rfl, fun f _ j _ => by show _ = _ + if j = r then (0 : Int32) else 0; split <;> exact (Int32.add_zero _).symm⟩ ?_) (fun _ _ q => q)
  rintro i ⟨z, μ1⟩ hi ⟨hz, K1, cc1, e0, e1⟩
  dsimp only at hz K1 cc1 e0 e1 ⊢
  subst hz
  have C1 := C.kw K1 sW_ok cc1
  unfold f_X6_weigh_L78
  rw [told3 C1.2.2.1, bd_some]
  rcases Nat.lt_or_ge i (V.1 3) with q | q
  · obtain ⟨fa, hfa, efa⟩ := (C.1.2.2.2.2.2.2.2.1 i q).2.2.1
    rw [if_neg (nI_ge q (by omega)), gd_t (ixN (by omega) (by omega)), nI_clamp (by omega), (C1.2.2.1.2.2.2.1 i q).2.2.1, efa]
    have go : Ok (f_X6_weigh_j107 175 h 66 84 (nI t) (nI r) (nI i) 177 (nI fa) μ1) (fun u s' => (u = 0 ∧ i < V.1 3 ∧ s'.1 = nI (i + 1) ∧ Kp sW sB μ s'.2 ∧ CC s'.2 V ∧ s'.2.1 180 = μ.1 180 ∧ ∀ f, f < 2 → ∀ j, j < 6 → s'.2.1 (178 + f) j = μ.1 (178 + f) j + if j = r then sumN (i + 1) (fun d => if V.2.1 5 d = nI f then lkT V g ts S d t else 0) else 0) ∨ ∃ u1, u = u1 + 1 ∧ Kp sW sB μ s'.2 ∧ CC s'.2 V ∧ s'.2.1 180 = μ.1 180 ∧ ∀ f, f < 2 → ∀ j, j < 6 → s'.2.1 (178 + f) j = μ.1 (178 + f) j + if j = r then sumN (V.1 3) (fun d => if V.2.1 5 d = nI f then lkT V g ts S d t else 0) else 0) := by
      unfold f_X6_weigh_j107
      have ixr : ixo (nI r) 6 := ixN (by omega) (by omega)
      simp only [Nat.reduceAdd, gd_t ixr, gd_t (show ixo (nI fa) 2 from ixN (by omega) (by omega))]
      rw [nI_clamp (by omega), nI_clamp (by omega), Ok_bd]
      refine (likes_spec C1 q ht hr).mono ?_
      rintro y μ2 ⟨hy, K2⟩
      have ey : y = lkT V g ts S i t := by
        unfold lkT
        rw [hat, nI_clamp (by omega)]
        exact hy
      subst ey
      have K12 : Kp sW sB μ1 μ2 := K2.1.wide (fun k hk => by rw [List.mem_singleton] at hk; subst hk; decide) (fun _ z => z)
      rw [Ok_vl, Ok_vl, nI_1, Ok_some]
      refine Or.inl ⟨rfl, q, rfl, (K1.trans K12).sI (by simp only [sW, List.mem_cons, List.not_mem_nil, or_false]; omega), K2.2.of (by funext j; rw [sI_i, if_neg (by omega)]) rfl, ?_, fun f hf j hj => ?_⟩
      · funext j
        rw [sI_i, if_neg (by omega), K2.1.i (by simp), e0]
      · have un : sumN (i + 1) (fun d => if V.2.1 5 d = nI f then lkT V g ts S d t else 0) = sumN i (fun d => if V.2.1 5 d = nI f then lkT V g ts S d t else 0) + if V.2.1 5 i = nI f then lkT V g ts S i t else 0 := rfl
        rw [sI_i, un]
        have o1 : μ2.1 (178 + f) j = μ1.1 (178 + f) j := K2.1.i (by simp only [List.mem_singleton]; omega) j
        by_cases cj : j = r
        · subst cj
          rw [if_pos rfl]
          by_cases cf : f = fa
          · subst cf
            rw [if_pos ⟨rfl, rfl⟩, e1 f hf j hj, if_pos rfl, if_pos efa, Int32.add_assoc]
          · rw [if_neg (by omega), o1, e1 f hf j hj, if_pos rfl, if_neg (fun w => cf ((nI_eq (by omega) (by omega)).mp (w.symm.trans efa))), Int32.add_zero]
        · rw [if_neg (by omega), if_neg cj, o1, e1 f hf j hj, if_neg cj]
    match fa, hfa with
    | 0, _ => rw [if_pos (show nI 0 = 0 from rfl)]; exact go
    | 1, _ => rw [if_neg (show ¬ nI 1 = 0 by decide)]; exact go
  · rw [if_pos (nI_le q (by omega)), Ok_some]
    have : i = V.1 3 := by omega
    subst this
    exact Or.inr ⟨0, rfl, K1, cc1, e0, e1⟩
theorem weighS_spec {μ : fMem} {V : HV} {h : Nat} {S : SV} {g : Int32} {ts : Nat → Int32} (C : Crs μ V h 66 S g ts) (hS : SR V S) : Ok (f_X6_weigh 175 h 66 84 μ) (fun _ μ' => Kp sW sB μ μ' ∧ CC μ' V ∧ (∀ f, f < 2 → ∀ r, r < 6 → μ'.1 (178 + f) r = wS V g ts S f r) ∧ ∀ r, r < 6 → μ'.1 180 r = cwR V S r) := by
  have h8 : V.1 2 ≤ 8 := C.1.2.2.1
  have h0 : V.1 0 ≤ 6 := C.1.1
  unfold f_X6_weigh
  simp only [Nat.reduceAdd]
  rw [fill_spec 178 0 μ (n := 6) (by decide) (by decide), bd_some, fill_spec 179 0 _ (n := 6) (by decide) (by decide), bd_some, fill_spec 180 0 _ (n := 6) (by decide) (by decide), bd_some, Ok_bd]
  generalize hμ0 : sRow (sRow (sRow μ 178 fun j => if j < 6 then 0 else μ.1 178 j) 179 fun j => if j < 6 then 0 else (sRow μ 178 fun j => if j < 6 then 0 else μ.1 178 j).1 179 j) 180 (fun j => if j < 6 then 0 else (sRow (sRow μ 178 fun j => if j < 6 then 0 else μ.1 178 j) 179 fun j => if j < 6 then 0 else (sRow μ 178 fun j => if j < 6 then 0 else μ.1 178 j).1 179 j).1 180 j) = μ0
  have K0 : Kp sW sB μ μ0 := by
    subst hμ0
    exact ((Kp.rfl'.sRow (by simp)).sRow (by simp)).sRow (by simp)
  have z0 : ∀ f, f < 3 → ∀ j, j < 6 → μ0.1 (178 + f) j = 0 := by
    subst hμ0
    intro f hf j hj
    match f, hf with
    | 0, _ => rw [sRow_ne (by omega), sRow_ne (by omega), sRow_at, if_pos hj]
    | 1, _ => rw [sRow_ne (by omega), sRow_at, if_pos hj]
    | 2, _ => rw [sRow_at, if_pos hj]
  have cc0 : CC μ0 V := by
    subst hμ0
    exact C.2.2.2.2.2.of (by rw [sRow_ne (by omega), sRow_ne (by omega), sRow_ne (by omega)]) rfl
  refine Ok.mono (Q := fun u (q : Int32 × fMem) => Kp sW sB μ q.2 ∧ CC q.2 V ∧ (∀ f, f < 2 → ∀ r, r < 6 → q.2.1 (178 + f) r = sumN (V.1 2) (fun t => if S 0 t = nI r then twS V g ts S f t else 0)) ∧ ∀ r, r < 6 → q.2.1 180 r = sumN (V.1 2) (fun t => if S 0 t = nI r then 10 else 0)) (Ok_lp (V.1 2) (fun i (q : Int32 × fMem) => q.1 = nI i ∧ Kp sW sB μ q.2 ∧ CC q.2 V ∧ (∀ f, f < 2 → ∀ r, r < 6 → q.2.1 (178 + f) r = sumN i (fun t => if S 0 t = nI r then twS V g ts S f t else 0)) ∧ ∀ r, r < 6 → q.2.1 180 r = sumN i (fun t => if S 0 t = nI r then 10 else 0)) (by omega) ⟨rfl, K0, cc0, fun f hf r hr => z0 f (by omega) r hr, fun r hr => z0 2 (by omega) r hr⟩ ?_) ?_
  · rintro i ⟨z, μ1⟩ hi ⟨hz, K1, cc1, e1, e2⟩
    dsimp only at hz K1 cc1 e1 e2 ⊢
    subst hz
    have C1 := C.kw K1 sW_ok cc1
    unfold f_X6_weigh_L31
    simp only [Nat.reduceAdd]
    rw [told2 C1.2.2.1, bd_some]
    rcases Nat.lt_or_ge i (V.1 2) with q | q
    · obtain ⟨r, hr, hat⟩ := hS.1 i q
      have ixr : ixo (nI r) 6 := ixN (by omega) (by omega)
      rw [if_neg (nI_ge q (by omega)), gd_t (ixN (by omega) (by omega)), nI_clamp (by omega), Ok_vl, C1.2.2.2.1.1 i q, hat, has0 C1.2.2.1, bd_some, if_pos (hs_nI hr (by omega)), if_neg (by decide), gd_t ixr, gd_t ixr, nI_clamp (by omega), Ok_vl, Ok_bd]
      have K2 : Kp sW sB μ1 (sI μ1 180 r (μ1.1 180 r + 10)) := Kp.rfl'.sI (by simp)
      have cc2 : CC (sI μ1 180 r (μ1.1 180 r + 10)) V := cc1.of (by funext j; rw [sI_i, if_neg (by omega)]) rfl
      have C2 := C1.kw K2 sW_ok cc2
      have a2 : (sI μ1 180 r (μ1.1 180 r + 10)).1 180 = fun j => if j = r then μ1.1 180 r + 10 else μ1.1 180 j := by
        funext j
        rw [sI_i]
        by_cases e : j = r
        · rw [if_pos ⟨rfl, e⟩, if_pos e]
        · rw [if_neg (fun w => e w.2), if_neg e]
      have b2 : ∀ f, f < 2 → ∀ j, (sI μ1 180 r (μ1.1 180 r + 10)).1 (178 + f) j = μ1.1 (178 + f) j := fun f hf j => by rw [sI_i, if_neg (by omega)]
      generalize sI μ1 180 r (μ1.1 180 r + 10) = μ2 at K2 cc2 C2 a2 b2 ⊢
      refine (weighS_in C2 q (by omega) hat).mono ?_
      rintro u ⟨z3, μ3⟩ ⟨K3, cc3, e3, f3⟩
      dsimp only at K3 cc3 e3 f3 ⊢
      rw [Ok_vl, nI_1, Ok_some]
      refine Or.inl ⟨rfl, q, rfl, (K1.trans K2).trans K3, cc3, fun f hf j hj => ?_, fun j hj => ?_⟩
      · have un : sumN (i + 1) (fun t => if S 0 t = nI j then twS V g ts S f t else 0) = sumN i (fun t => if S 0 t = nI j then twS V g ts S f t else 0) + if S 0 i = nI j then twS V g ts S f i else 0 := rfl
        rw [un, f3 f hf j hj, b2 f hf j, e1 f hf j hj]
        congr 1
        by_cases e : j = r
        · rw [if_pos e, if_pos (by rw [hat, e])]
        · rw [if_neg e, if_neg (fun w => e ((nI_eq (by omega) (by omega)).mp (w.symm.trans hat)))]
      · have un : sumN (i + 1) (fun t => if S 0 t = nI j then (10 : Int32) else 0) = sumN i (fun t => if S 0 t = nI j then 10 else 0) + if S 0 i = nI j then 10 else 0 := rfl
        rw [un, e3, a2]
        dsimp only
        by_cases e : j = r
        · rw [if_pos e, if_pos (by rw [hat, e]), e2 r (by omega), e]
        · rw [if_neg e, if_neg (fun w => e ((nI_eq (by omega) (by omega)).mp (w.symm.trans hat))), Int32.add_zero, e2 j hj]
    · rw [if_pos (nI_le q (by omega)), Ok_some]
      have : i = V.1 2 := by omega
      subst this
      exact Or.inr ⟨0, rfl, K1, cc1, e1, e2⟩
  · rintro u ⟨z, μ1⟩ ⟨K1, cc1, e1, e2⟩
    exact Ok_some.mpr ⟨K1, cc1, fun f hf r hr => (e1 f hf r hr).trans (wS_eq C.1 hr), fun r hr => (e2 r hr).trans (cw_eq C.1)⟩
/-- the rests, as found -/
def rwL (p : Nat → Nat → Bool) (a : Nat) : Nat → List Int32
  | 0 => []
  | b + 1 => rwL p a b ++ (if p a b = true then [nI (10 * a + b)] else [])
def rlL (p : Nat → Nat → Bool) (R : Nat) : Nat → List Int32
  | 0 => []
  | a + 1 => rlL p R a ++ rwL p a R
theorem rwL_len (p : Nat → Nat → Bool) (a : Nat) : ∀ b, (rwL p a b).length ≤ b
  | 0 => Nat.le_refl _
  | b + 1 => by
    have := rwL_len p a b
    unfold rwL
    rw [List.length_append]
    split <;> simp <;> omega
theorem rlL_len (p : Nat → Nat → Bool) (R : Nat) : ∀ a, (rlL p R a).length ≤ a * R
  | 0 => Nat.zero_le _
  | a + 1 => by
    have h1 := rlL_len p R a
    have h2 := rwL_len p a R
    unfold rlL
    rw [List.length_append, Nat.succ_mul]
    omega
theorem rl36 {p : Nat → Nat → Bool} {R a b : Nat} (hR : R ≤ 6) (ha : a < R) (hb : b < R) : (rlL p R a ++ rwL p a b).length < 36 := by
  have h1 := rlL_len p R a
  have h2 := rwL_len p a b
  have h3 : a * R ≤ 5 * 6 := Nat.mul_le_mul (by omega) hR
  rw [List.length_append]
  omega
theorem rl36' {p : Nat → Nat → Bool} {R : Nat} (hR : R ≤ 6) : (rlL p R R).length ≤ 36 := by
  have h1 := rlL_len p R R
  have h3 : R * R ≤ 6 * 6 := Nat.mul_le_mul hR hR
  omega
def FD (μ : fMem) (L : List Int32) : Prop := μ.1 175 0 = nI L.length ∧ ∀ i x, L[i]? = some x → μ.1 176 i = x
def WC (μ : fMem) (V : HV) (g : Int32) (ts : Nat → Int32) (S : SV) : Prop := μ.1 175 2 = nI (V.1 0) ∧ (∀ f, f < 2 → ∀ r, r < 6 → μ.1 (178 + f) r = wS V g ts S f r) ∧ ∀ r, r < 6 → μ.1 180 r = cwR V S r
theorem share_eq {μ : fMem} {V : HV} {g : Int32} {ts : Nat → Int32} {S : SV} (W : WC μ V g ts S) {f a b : Nat} (hf : f < 2) (ha : a < 6) (hb : b < 6) : f_X6_share 175 (nI f) (nI a) (nI b) μ = some (shS V g ts S f a b, μ) := by
  unfold f_X6_share shS
  have ixa : ixo (nI a) 6 := ixN ha (by omega)
  simp only [gd_t ixa, gd_t (show ixo (nI f) 2 from ixN hf (by omega)), nI_clamp (show a < 2 ^ 31 by omega), nI_clamp (show f < 2 ^ 31 by omega), Nat.reduceAdd, W.2.1 f hf a ha, W.2.2 a ha, Int32.sub_zero]
  by_cases c : a = b
  · rw [if_pos c, if_pos (by rw [c])]
  · rw [if_neg c, if_neg (fun w => c ((nI_eq (by omega) (by omega)).mp w))]
theorem isBest_eq {μ : fMem} {V : HV} {g : Int32} {ts : Nat → Int32} {S : SV} (hV : HW V) (W : WC μ V g ts S) {f a b : Nat} (hf : f < 2) (ha : a < 6) (hb : b < 6) : f_X6_isBest 175 (nI f) (nI a) (nI b) μ = some ((if bsB V g ts S f a b = true then 1 else 0), μ) := by
  have h6 : V.1 0 ≤ 6 := hV.1
  have key : Ok (f_X6_isBest 175 (nI f) (nI a) (nI b) μ) (fun r μ' => r = (if bsB V g ts S f a b = true then 1 else 0) ∧ μ' = μ) := by
    unfold f_X6_isBest
    rw [share_eq W hf ha hb, bd_some, Ok_bd]
    refine Ok.mono (Q := fun u (q : Int32 × fMem) => q.2 = μ ∧ ((u = 0 ∧ bsB V g ts S f a b = true) ∨ (¬ u = 0 ∧ bsB V g ts S f a b = false))) (Ok_lp (V.1 0) (fun i (q : Int32 × fMem) => q.1 = nI i ∧ q.2 = μ ∧ allB (fun k => decide (shS V g ts S f k b ≤ shS V g ts S f a b)) i = true) (by omega) ⟨rfl, rfl, rfl⟩ ?_) ?_
    · rintro i ⟨z, μ1⟩ hi ⟨hz, hm, hA⟩
      dsimp only at hz hm hA ⊢
      subst hz hm
      unfold f_X6_isBest_L12
      rw [W.1]
      rcases Nat.lt_or_ge i (V.1 0) with q | q
      · rw [if_neg (nI_ge q (by omega)), share_eq W hf (by omega) hb, bd_some]
        by_cases c : shS V g ts S f i b ≤ shS V g ts S f a b
        · rw [if_pos c, Ok_vl, nI_1, Ok_some]
          exact Or.inl ⟨rfl, q, rfl, rfl, allB_step hA (decide_eq_true c)⟩
        · rw [if_neg c, Ok_some]
          exact Or.inr ⟨1, rfl, rfl, Or.inr ⟨by decide, allB_fail (p := fun k => decide (shS V g ts S f k b ≤ shS V g ts S f a b)) (decide_eq_false c) _ q⟩⟩
      · rw [if_pos (nI_le q (by omega)), Ok_some]
        have : i = V.1 0 := by omega
        subst this
        exact Or.inr ⟨0, rfl, rfl, Or.inl ⟨rfl, hA⟩⟩
    · rintro u ⟨z, μ1⟩ ⟨hm, hq⟩
      dsimp only at hm hq ⊢
      subst hm
      rcases hq with ⟨rfl, h⟩ | ⟨hu, h⟩
      · rw [if_pos rfl, gd_t (Or.inr rfl), Ok_some, h]; exact ⟨rfl, rfl⟩
      · rw [if_neg hu, gd_t (Or.inl rfl), Ok_some, h]; exact ⟨rfl, rfl⟩
  obtain ⟨x, y, e, rfl, rfl⟩ := key
  exact e
abbrev sF : List Nat := [175, 176]
theorem WC.of {μ μ' : fMem} {V : HV} {g : Int32} {ts : Nat → Int32} {S : SV} (W : WC μ V g ts S) (e2 : μ'.1 175 2 = μ.1 175 2) (e : ∀ k, 178 ≤ k → k ≤ 180 → μ'.1 k = μ.1 k) : WC μ' V g ts S := by
  refine ⟨by rw [e2]; exact W.1, fun f hf r hr => ?_, fun r hr => ?_⟩
  · rw [e (178 + f) (by omega) (by omega)]; exact W.2.1 f hf r hr
  · rw [e 180 (by omega) (by omega)]; exact W.2.2 r hr
theorem FD.add {μ : fMem} {L : List Int32} {x : Int32} (H : FD μ L) : FD (sI (sI μ 176 L.length x) 175 0 (nI (L.length + 1))) (L ++ [x]) := by
  refine ⟨by rw [sI_i, if_pos ⟨rfl, rfl⟩]; simp, fun i y hy => ?_⟩
  rw [sI_i, if_neg (by omega), sI_i]
  by_cases e : i = L.length
  · subst e
    rw [if_pos ⟨rfl, rfl⟩]
    rw [List.getElem?_append_right (Nat.le_refl _), Nat.sub_self] at hy
    exact Option.some.inj hy
  · rw [if_neg (fun w => e w.2)]
    rcases Nat.lt_or_ge i L.length with c | c
    · rw [List.getElem?_append_left c] at hy; exact H.2 i y hy
    · rw [List.getElem?_eq_none (by simp; omega)] at hy; cases hy
theorem workS_in {μ : fMem} {V : HV} {g : Int32} {ts : Nat → Int32} {S : SV} (hV : HW V) (W : WC μ V g ts S) {a : Nat} (ha : a < V.1 0) (F : FD μ (rlL (rB V g ts S) (V.1 0) a)) : Ok (lpn (fun (q : Int32 × fMem) => f_X6_work_L41 175 (nI a) q.1 q.2) fuel ((0 : Int32), μ)) (fun _ q => Kp sF [] μ q.2 ∧ WC q.2 V g ts S ∧ FD q.2 (rlL (rB V g ts S) (V.1 0) (a + 1))) := by
  have h6 : V.1 0 ≤ 6 := hV.1
  refine Ok_lp (V.1 0) (fun b (q : Int32 × fMem) => q.1 = nI b ∧ Kp sF [] μ q.2 ∧ WC q.2 V g ts S ∧ FD q.2 (rlL (rB V g ts S) (V.1 0) a ++ rwL (rB V g ts S) a b)) (by omega) ⟨rfl, Kp.rfl', W, by rw [show rwL (rB V g ts S) a 0 = [] from rfl, List.append_nil]; exact F⟩ ?_
  rintro b ⟨z, μ1⟩ hb ⟨hz, K1, W1, F1⟩
  dsimp only at hz K1 W1 F1 ⊢
  subst hz
  unfold f_X6_work_L41
  simp only [Nat.reduceAdd]
  rw [W1.1]
  have un : ∀ c : Bool, rB V g ts S a b = c → rwL (rB V g ts S) a (b + 1) = rwL (rB V g ts S) a b ++ (if c = true then [nI (10 * a + b)] else []) := by rintro c rfl; rfl
  rcases Nat.lt_or_ge b (V.1 0) with q | q
  · rw [if_neg (nI_ge q (by omega)), show f_X6_isBest 175 0 (nI a) (nI b) μ1 = some ((if bsB V g ts S 0 a b = true then 1 else 0), μ1) from isBest_eq hV W1 (f := 0) (by omega) (by omega) (by omega), bd_some]
    have no : rB V g ts S a b = false → FD μ1 (rlL (rB V g ts S) (V.1 0) a ++ rwL (rB V g ts S) a (b + 1)) := fun h => by
      rw [un false h, if_neg (by decide), List.append_nil]; exact F1
    cases c0 : bsB V g ts S 0 a b with
    | false =>
      rw [if_pos (show (if false = true then (1 : Int32) else 0) = 0 by decide), Ok_vl, nI_1, Ok_some]
      exact Or.inl ⟨rfl, q, rfl, K1, W1, no (by unfold rB; rw [c0]; rfl)⟩
    | true =>
      rw [if_neg (show ¬ (if true = true then (1 : Int32) else 0) = 0 by decide), show f_X6_isBest 175 1 (nI b) (nI a) μ1 = some ((if bsB V g ts S 1 b a = true then 1 else 0), μ1) from isBest_eq hV W1 (f := 1) (by omega) (by omega) (by omega), bd_some]
      cases c1 : bsB V g ts S 1 b a with
      | false =>
        rw [if_pos (show (if false = true then (1 : Int32) else 0) = 0 by decide), Ok_vl, nI_1, Ok_some]
        exact Or.inl ⟨rfl, q, rfl, K1, W1, no (by unfold rB; rw [c1, Bool.and_false])⟩
      | true =>
        have yes : rB V g ts S a b = true := by unfold rB; rw [c0, c1]; rfl
        have l36 := rl36 (p := rB V g ts S) h6 ha q
        rw [if_neg (show ¬ (if true = true then (1 : Int32) else 0) = 0 by decide), F1.1, if_neg (show ¬ 36 ≤ nI _ from nI_ge (b := 36) l36 (by omega)), gd_t (ixN l36 (by omega)), nI_clamp (by omega), Ok_vl, Ok_vl, Ok_vl]
        have e10 : (10 : Int32) * nI a + nI b = nI (10 * a + b) := by rw [show (10 : Int32) = nI 10 from rfl, nI_mul, nI_add]
        have F2 := F1.add (x := nI (10 * a + b))
        have e0 : (sI μ1 176 (rlL (rB V g ts S) (V.1 0) a ++ rwL (rB V g ts S) a b).length (10 * nI a + nI b)).1 175 0 = nI (rlL (rB V g ts S) (V.1 0) a ++ rwL (rB V g ts S) a b).length := by rw [sI_i, if_neg (by omega)]; exact F1.1
        rw [e0, nI_1, nI_1, e10, Ok_some]
        refine Or.inl ⟨rfl, q, rfl, (K1.sI (by simp)).sI (by simp), W1.of (by rw [sI_i, if_neg (by omega), sI_i, if_neg (by omega)]) (fun k a b => by funext j; rw [sI_i, if_neg (by omega), sI_i, if_neg (by omega)]), ?_⟩
        rw [un true yes, if_pos rfl, ← List.append_assoc]
        exact F2
  · rw [if_pos (nI_le q (by omega)), Ok_some]
    have : b = V.1 0 := by omega
    subst this
    exact Or.inr ⟨0, rfl, K1, W1, F1⟩
theorem workS_spec {μ : fMem} {V : HV} {h : Nat} {S : SV} {g : Int32} {ts : Nat → Int32} (C : Crs μ V h 66 S g ts) (hS : SR V S) : Ok (f_X6_work 175 h 66 84 μ) (fun _ μ' => FD μ' (rlL (rB V g ts S) (V.1 0) (V.1 0)) ∧ KE μ μ' ∧ CC μ' V) := by
  have h6 : V.1 0 ≤ 6 := C.1.1
  unfold f_X6_work
  rw [told0 C.2.2.1, bd_some, Ok_vl, Ok_bd]
  have e6 : imn 6 (nI (V.1 0)) = nI (V.1 0) := by
    unfold imn
    by_cases c : V.1 0 = 6
    · rw [c]; rfl
    · rw [if_pos (show nI (V.1 0) < 6 from nI_lt (b := 6) (by omega) (by omega))]
  rw [e6]
  have K0 : Kp [175] sB μ (sI μ 175 2 (nI (V.1 0))) := Kp.rfl'.sI (by simp)
  have cc0 : CC (sI μ 175 2 (nI (V.1 0))) V := C.2.2.2.2.2.of (by funext j; rw [sI_i, if_neg (by omega)]) rfl
  have ok1 : ∀ k ∈ [175], k = 122 ∨ 134 ≤ k := fun k hk => by rw [List.mem_singleton] at hk; omega
  have C0 := C.kw K0 ok1 cc0
  have e0 : (sI μ 175 2 (nI (V.1 0))).1 175 2 = nI (V.1 0) := by rw [sI_i, if_pos ⟨rfl, rfl⟩]
  have E0 := KE.kw K0 ok1
  generalize sI μ 175 2 (nI (V.1 0)) = μ0 at C0 e0 E0 ⊢
  refine (weighS_spec C0 hS).mono ?_
  rintro - μ1 ⟨K1, cc1, w1, w2⟩
  have E1 := KE.kw K1 sW_ok
  rw [Ok_vl, Ok_bd]
  have W2 : WC (sI μ1 175 0 0) V g ts S := by
    refine ⟨?_, fun f hf r hr => ?_, fun r hr => ?_⟩
    · rw [sI_i, if_neg (by omega), K1.i (by simp)]; exact e0
    · rw [sI_i, if_neg (by omega)]; exact w1 f hf r hr
    · rw [sI_i, if_neg (by omega)]; exact w2 r hr
  have F2 : FD (sI μ1 175 0 0) [] := ⟨by rw [sI_i, if_pos ⟨rfl, rfl⟩]; rfl, fun i x h => by cases h⟩
  have E2 : KE μ1 (sI μ1 175 0 0) := KE.s (by omega)
  have cc2 : CC (sI μ1 175 0 0) V := cc1.of (by funext j; rw [sI_i, if_neg (by omega)]) rfl
  generalize sI μ1 175 0 0 = μ2 at W2 F2 E2 cc2 ⊢
  refine Ok.mono (Q := fun u (q : Int32 × fMem) => Kp sF [] μ2 q.2 ∧ FD q.2 (rlL (rB V g ts S) (V.1 0) (V.1 0))) (Ok_lp (V.1 0) (fun a (q : Int32 × fMem) => q.1 = nI a ∧ Kp sF [] μ2 q.2 ∧ WC q.2 V g ts S ∧ FD q.2 (rlL (rB V g ts S) (V.1 0) a)) (by omega) ⟨rfl, Kp.rfl', W2, F2⟩ ?_) ?_
  · rintro a ⟨z, μ3⟩ ha ⟨hz, K3, W3, F3⟩
    dsimp only at hz K3 W3 F3 ⊢
    subst hz
    unfold f_X6_work_L29
    rw [W3.1]
    rcases Nat.lt_or_ge a (V.1 0) with q | q
    · rw [if_neg (nI_ge q (by omega)), Ok_bd]
      refine (workS_in C.1 W3 q F3).mono ?_
      rintro u ⟨z4, μ4⟩ ⟨K4, W4, F4⟩
      dsimp only at K4 W4 F4 ⊢
      rw [Ok_vl, nI_1, Ok_some]
      exact Or.inl ⟨rfl, q, rfl, K3.trans K4, W4, F4⟩
    · rw [if_pos (nI_le q (by omega)), Ok_some]
      have : a = V.1 0 := by omega
      subst this
      exact Or.inr ⟨0, rfl, K3, F3⟩
  · rintro u ⟨z, μ3⟩ ⟨K3, F3⟩
    refine Ok_some.mpr ⟨F3, ((E0.trans E1).trans E2).trans (KE.kp K3 (fun k hk => by simp only [sF, List.mem_cons, List.not_mem_nil, or_false] at hk; omega)), cc2.of (K3.2.1 122 (by simp [sF])) (K3.2.2 121 (List.not_mem_nil))⟩
end Sim16
