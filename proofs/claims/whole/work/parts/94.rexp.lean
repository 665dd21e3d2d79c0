/-! the reference reads a law -/
def MF (ν : fMem) (t : TQ) (c k : Nat) : Prop := ν.1 181 28 = nI c ∧ ν.1 181 29 = nI (t k).2.1
def MR (b : Nat → Nat) (N : Nat) (t : TQ) (K base : Nat) (ν : fMem) (k : Nat) (o : List (Int32 × Int32)) (kn op : Nat) : Prop := CBM ν b N ∧ k ≤ K ∧ ν.1 181 28 = 0 ∧ MT ν t k ∧ ν.1 181 33 = nI kn ∧ ν.1 181 32 = nI op ∧ ν.1 183 13 = nI (base + o.length) ∧ ∀ i, i < o.length → ∃ p, o[i]? = some p ∧ ν.1 199 (64 + base + i) = (cdm p).1 ∧ ν.1 200 (64 + base + i) = (cdm p).2
abbrev ARx (base k j : Nat) : Prop := (k = 181 ∧ ((24 ≤ j ∧ j ≤ 29) ∨ j = 32 ∨ j = 33)) ∨ (k = 183 ∧ j = 13) ∨ ((k = 199 ∨ k = 200) ∧ 64 + base ≤ j)
def NX (t : TQ) (L k : Nat) (st : List Nat) : Prop := rk (t k).1 < L ∨ (t k).1 = 12 ∨ (rk (t k).1 = 4 ∧ ∀ o, rkt (popR 5 st o).1 = 4)
def FO (t : TQ) (x0 : ES) (ν' : fMem) : Prop := ∃ x c, Rch t x0 x ∧ stp t x = .inl c ∧ ¬ c = 0 ∧ c < 10 ∧ MF ν' t c x.2.1
abbrev RF : Type := Nat → fMem → Option (Unit × fMem)
def NoF (F : RF) : Prop := ∀ ν : fMem, ¬ ν.1 181 28 = 0 → Ok (F 181 ν) (fun _ ν' => ν' = ν)
section RExp
variable {b : Nat → Nat} {N : Nat} {t : TQ} {K base : Nat} {ν : fMem} {k : Nat}
theorem goOn_f (h : ¬ ν.1 181 28 = 0) : f_X11_goOn 181 ν = some ((), ν) := if_neg h
theorem knot_f (h : ¬ ν.1 181 28 = 0) : f_X11_knot 181 ν = some ((), ν) := if_neg h
theorem puts_f (h : ¬ ν.1 181 28 = 0) (x y : Int32) : f_X11_puts 181 x y ν = some ((), ν) := if_neg h
theorem wrong_f (h : ¬ ν.1 181 28 = 0) (x : Int32) : f_X11_wrong 181 x ν = some ((), ν) := if_neg h
theorem isSign_f (h : ¬ ν.1 181 28 = 0) (x : Int32) : f_X11_isSign 181 x ν = some (0, ν) := (if_neg h).trans (gd_t (Or.inl rfl))
theorem isWord_f (h : ¬ ν.1 181 28 = 0) (x : Int32) : f_X11_isWord 181 x ν = some (0, ν) := (if_neg h).trans (gd_t (Or.inl rfl))
theorem NoF.primary (E : RF) : NoF (f_X11_primary_b E) := fun ν h => by
  unfold f_X11_primary_b
  rw [if_neg h, Ok_some]
theorem NoF.loop {F : RF} {B : fMem → Option (Nat × fMem)} (hF : NoF F) (hB : ∀ ν : fMem, ¬ ν.1 181 28 = 0 → B ν = some (1, ν)) (ν : fMem) (h : ¬ ν.1 181 28 = 0) : Ok (bd (F 181 ν) fun _ μ1 => bd (lpn (fun (q : fMem) => B q) fuel μ1) fun _ q => some ((), q)) (fun _ ν' => ν' = ν) := by
  rw [Ok_bd]
  refine (hF ν h).mono ?_
  rintro - ν1 rfl
  rw [Ok_bd]
  refine Ok.mono (Q := fun _ (q : fMem) => q = ν1) (Ok_lp 0 (fun _ (q : fMem) => q = ν1) (by decide) rfl ?_) ?_
  · rintro i ν2 - rfl
    rw [hB ν2 h, Ok_some]
    exact Or.inr ⟨0, rfl, rfl⟩
  · rintro - ν2 rfl
    rw [Ok_some]
theorem NoF.product {P : RF} (h : NoF P) : NoF (f_X11_product_b P) := fun ν hν => by
  unfold f_X11_product_b
  refine NoF.loop (B := fun q => f_X11_product_L4 P 181 q) h (fun ν q => ?_) ν hν
  unfold f_X11_product_L4
  rw [isSign_f q, bd_some, if_pos rfl, isSign_f q, bd_some, if_pos rfl]
theorem NoF.sum {P : RF} (h : NoF P) : NoF (f_X11_sum_b P) := fun ν hν => by
  unfold f_X11_sum_b
  refine NoF.loop (B := fun q => f_X11_sum_L4 P 181 q) h (fun ν q => ?_) ν hν
  unfold f_X11_sum_L4
  rw [isSign_f q, bd_some, if_pos rfl, isSign_f q, bd_some, if_pos rfl]
theorem NoF.conj {P : RF} (h : NoF P) : NoF (f_X11_conjunction_b P) := fun ν hν => by
  unfold f_X11_conjunction_b
  refine NoF.loop (B := fun q => f_X11_conjunction_L4 P 181 q) h (fun ν q => ?_) ν hν
  unfold f_X11_conjunction_L4
  rw [isWord_f q, bd_some, if_pos rfl]
theorem NoF.expr {P : RF} (h : NoF P) : NoF (f_X11_expression_b P) := fun ν hν => by
  unfold f_X11_expression_b
  refine NoF.loop (B := fun q => f_X11_expression_L4 P 181 q) h (fun ν q => ?_) ν hν
  unfold f_X11_expression_L4
  rw [isWord_f q, bd_some, if_pos rfl]
theorem NoF.neg {M S : RF} (h : NoF S) : NoF (f_X11_negation_b M S) := fun ν q => by
  unfold f_X11_negation_b
  rw [isWord_f q, bd_some, if_pos rfl, Ok_bd]
  refine (h ν q).mono ?_
  rintro - ν1 rfl
  rw [if_neg q, Ok_some]
theorem NoF.fsum (E : RF) : NoF (fr_sum E) := ((NoF.primary E).product).sum
theorem NoF.en (n : Nat) : NoF (fr_EN (n + 1)).1 ∧ NoF (fr_EN (n + 1)).2 := ⟨(((NoF.fsum _).neg).conj).expr, (NoF.fsum _).neg⟩
theorem MF.ne {c : Nat} (h : MF ν t c k) (h0 : ¬ c = 0) (hc : c < 10) : ¬ ν.1 181 28 = 0 := by
  rw [h.1]
  exact nI_ne0 (by omega) (by omega)
theorem wrong_eq (h : ν.1 181 28 = 0) (hm : MT ν t k) (c : Nat) : ∃ ν', f_X11_wrong 181 (nI c) ν = some ((), ν') ∧ MF ν' t c k ∧ Kx (fun k j => k = 181 ∧ (j = 28 ∨ j = 29)) BN ν ν' := by
  refine ⟨sI (sI ν 181 28 (nI c)) 181 29 (ν.1 181 25), ?_, ⟨?_, ?_⟩, (Kx.rfl'.sI ⟨rfl, Or.inl rfl⟩).sI ⟨rfl, Or.inr rfl⟩⟩
  · unfold f_X11_wrong
    rw [if_pos h, vl, vl, show (sI ν 181 28 (nI c)).1 181 25 = ν.1 181 25 by rw [sI_i, if_neg (by omega)]]
  · rw [sI_i, if_neg (by omega), sI_i, if_pos ⟨rfl, rfl⟩]
  · rw [sI_i, if_pos ⟨rfl, rfl⟩]; exact hm.2.1
theorem sgc_inj : ∀ a, 24 ≤ a → a < 37 → ∀ c, 24 ≤ c → c < 37 → sgc a = sgc c → a = c := by
  have : ∀ i, i < 13 → ∀ j, j < 13 → sgc (24 + i) = sgc (24 + j) → i = j := by decide
  intro a h1 h2 c h3 h4 e
  have := this (a - 24) (by omega) (c - 24) (by omega) (by rw [show 24 + (a - 24) = a by omega, show 24 + (c - 24) = c by omega]; exact e)
  omega
theorem sgc_lt (s : Nat) : sgc s < 300 := by
  unfold sgc
  repeat' split
  all_goals omega
/-- what kind of token the reference sees -/
theorem MT.k3 (hm : MT ν t k) : ν.1 181 26 = 3 ↔ (24 ≤ (t k).1 ∧ (t k).1 ≤ 36) := by
  rcases hm.2.2 with ⟨a, b, c⟩ | ⟨a, b, c⟩ | ⟨a, b, c⟩ | ⟨a, b⟩ | ⟨a, b⟩ | ⟨a, a2, b, c⟩ <;> rw [b] <;> constructor <;> intro z <;> first | omega | exact absurd z (by decide) | rfl
theorem MT.k0 (hm : MT ν t k) : ν.1 181 26 = 0 ↔ (t k).1 < 20 := by
  rcases hm.2.2 with ⟨a, b, c⟩ | ⟨a, b, c⟩ | ⟨a, b, c⟩ | ⟨a, b⟩ | ⟨a, b⟩ | ⟨a, a2, b, c⟩ <;> rw [b] <;> constructor <;> intro z <;> first | omega | exact absurd z (by decide) | rfl
theorem MT.k1 (hm : MT ν t k) : ν.1 181 26 = 1 ↔ (t k).1 = 20 := by
  rcases hm.2.2 with ⟨a, b, c⟩ | ⟨a, b, c⟩ | ⟨a, b, c⟩ | ⟨a, b⟩ | ⟨a, b⟩ | ⟨a, a2, b, c⟩ <;> rw [b] <;> constructor <;> intro z <;> first | omega | exact absurd z (by decide) | rfl
theorem MT.k2 (hm : MT ν t k) : ν.1 181 26 = 2 ↔ (t k).1 = 21 := by
  rcases hm.2.2 with ⟨a, b, c⟩ | ⟨a, b, c⟩ | ⟨a, b, c⟩ | ⟨a, b⟩ | ⟨a, b⟩ | ⟨a, a2, b, c⟩ <;> rw [b] <;> constructor <;> intro z <;> first | omega | exact absurd z (by decide) | rfl
theorem MT.k4 (hm : MT ν t k) : ν.1 181 26 = 4 ↔ (t k).1 = 22 := by
  rcases hm.2.2 with ⟨a, b, c⟩ | ⟨a, b, c⟩ | ⟨a, b, c⟩ | ⟨a, b⟩ | ⟨a, b⟩ | ⟨a, a2, b, c⟩ <;> rw [b] <;> constructor <;> intro z <;> first | omega | exact absurd z (by decide) | rfl
theorem MT.v0 (hm : MT ν t k) (h : (t k).1 < 20) : ν.1 181 27 = nI (t k).1 := by
  rcases hm.2.2 with ⟨a, b, c⟩ | ⟨a, b, c⟩ | ⟨a, b, c⟩ | ⟨a, b⟩ | ⟨a, b⟩ | ⟨a, a2, b, c⟩ <;> first | omega | exact c
theorem MT.v1 (hm : MT ν t k) (h : (t k).1 = 20) : ν.1 181 27 = nI (t k).2.2.1 := by
  rcases hm.2.2 with ⟨a, b, c⟩ | ⟨a, b, c⟩ | ⟨a, b, c⟩ | ⟨a, b⟩ | ⟨a, b⟩ | ⟨a, a2, b, c⟩ <;> first | omega | exact c
theorem MT.v2 (hm : MT ν t k) (h : (t k).1 = 21) : ∃ u, ν.1 181 27 = nI u ∧ u ≤ 1000000 ∧ (t k).2.2.1 ≤ 1000000 ∧ (u = (t k).2.2.1 ∨ (99999 < u ∧ 99999 < (t k).2.2.1)) := by
  rcases hm.2.2 with ⟨a, b, c⟩ | ⟨a, b, c⟩ | ⟨a, b, c⟩ | ⟨a, b⟩ | ⟨a, b⟩ | ⟨a, a2, b, c⟩ <;> first | omega | exact c
theorem MT.v3 (hm : MT ν t k) (h : 24 ≤ (t k).1) : ν.1 181 27 = nI (sgc (t k).1) := by
  rcases hm.2.2 with ⟨a, b, c⟩ | ⟨a, b, c⟩ | ⟨a, b, c⟩ | ⟨a, b⟩ | ⟨a, b⟩ | ⟨a, a2, b, c⟩ <;> first | omega | exact c
theorem isSign_eq (h : ν.1 181 28 = 0) (hm : MT ν t k) {s : Nat} (hs : 24 ≤ s ∧ s < 37) : f_X11_isSign 181 (nI (sgc s)) ν = some ((if (t k).1 = s then 1 else 0), ν) := by
  unfold f_X11_isSign
  rw [if_pos h]
  by_cases q : 24 ≤ (t k).1 ∧ (t k).1 ≤ 36
  · rw [if_pos (hm.k3.mpr q), hm.v3 q.1]
    by_cases z : (t k).1 = s
    · rw [if_pos (by rw [z]), if_pos z, gd_t (Or.inr rfl)]
    · have h1 := sgc_lt (t k).1
      have h2 := sgc_lt s
      rw [if_neg (fun y => z (sgc_inj _ q.1 (by omega) s hs.1 hs.2 ((nI_eq (by omega) (by omega)).mp y))), if_neg z, gd_t (Or.inl rfl)]
  · rw [if_neg (fun z => q (hm.k3.mp z)), if_neg (by omega), gd_t (Or.inl rfl)]
theorem isWord_eq (h : ν.1 181 28 = 0) (hm : MT ν t k) {s : Nat} (hs : s < 20) : f_X11_isWord 181 (nI s) ν = some ((if (t k).1 = s then 1 else 0), ν) := by
  unfold f_X11_isWord
  rw [if_pos h]
  by_cases q : (t k).1 < 20
  · rw [if_pos (hm.k0.mpr q), hm.v0 q]
    by_cases z : (t k).1 = s
    · rw [if_pos (by rw [z]), if_pos z, gd_t (Or.inr rfl)]
    · rw [if_neg (fun y => z ((nI_eq (by omega) (by omega)).mp y)), if_neg z, gd_t (Or.inl rfl)]
  · rw [if_neg (fun z => q (hm.k0.mp z)), if_neg (by omega), gd_t (Or.inl rfl)]
variable {o : List (Int32 × Int32)} {kn op : Nat}
theorem MR.of {ν' : fMem} (H : MR b N t K base ν k o kn op) {A : Nat → Nat → Prop} (K1 : Kx A BN ν ν') (hA : ∀ k j, A k j → ¬ (k = 181 ∧ (j = 23 ∨ j = 28 ∨ j = 29 ∨ j = 32 ∨ j = 33 ∨ (24 ≤ j ∧ j ≤ 27))) ∧ ¬ k = 182 ∧ ¬ (k = 183 ∧ j = 13) ∧ ¬ k = 199 ∧ ¬ k = 200) : MR b N t K base ν' k o kn op := by
  obtain ⟨⟨h1, h1b, h1c⟩, h2, h3, h4, h5, h6, h7, h8⟩ := H
  have e : ∀ k j, (k = 181 ∧ (j = 23 ∨ j = 28 ∨ j = 29 ∨ j = 32 ∨ j = 33 ∨ (24 ≤ j ∧ j ≤ 27))) ∨ k = 182 ∨ (k = 183 ∧ j = 13) ∨ k = 199 ∨ k = 200 → ν'.1 k j = ν.1 k j := fun k j h => K1.2.1 k j (fun q => by have := hA k j q; omega)
  refine ⟨⟨by rw [e _ _ (by omega)]; exact h1, h1b, fun j hj => ⟨(h1c j hj).1, by rw [e _ _ (by omega)]; exact (h1c j hj).2⟩⟩, h2, by rw [e _ _ (by omega)]; exact h3, h4.of fun j a c => e _ _ (by omega), by rw [e _ _ (by omega)]; exact h5, by rw [e _ _ (by omega)]; exact h6, by rw [e _ _ (by omega)]; exact h7, fun i hi => ?_⟩
  obtain ⟨p, p1, p2, p3⟩ := h8 i hi
  exact ⟨p, p1, by rw [e _ _ (by omega)]; exact p2, by rw [e _ _ (by omega)]; exact p3⟩
theorem token_R (T : Toks b N t K) (H : MR b N t K base ν k o kn op) (hk : k < K) : Ok (f_X11_token 181 ν) (fun _ ν' => MR b N t K base ν' (k + 1) o kn op ∧ Kx (ARx base) BN ν ν') := by
  obtain ⟨h1, h2, h3, h4, h5, h6, h7, h8⟩ := H
  refine (token_n T h1 h4 hk).mono ?_
  rintro - ν1 ⟨K1, m1⟩
  refine ⟨⟨h1.kx K1, hk, by rw [K1.2.1 _ _ (by omega)]; exact h3, m1, by rw [K1.2.1 _ _ (by omega)]; exact h5, by rw [K1.2.1 _ _ (by omega)]; exact h6, by rw [K1.2.1 _ _ (by omega)]; exact h7, fun i hi => ?_⟩, K1.wide (fun k j h => by omega) (fun _ _ h => h)⟩
  obtain ⟨p, p1, p2, p3⟩ := h8 i hi
  exact ⟨p, p1, by rw [K1.2.1 _ _ (by omega)]; exact p2, by rw [K1.2.1 _ _ (by omega)]; exact p3⟩
theorem goOn_R (T : Toks b N t K) (H : MR b N t K base ν k o kn op) (hk : k < K) : Ok (f_X11_goOn 181 ν) (fun _ ν' => MR b N t K base ν' (k + 1) o kn op ∧ Kx (ARx base) BN ν ν') := by
  unfold f_X11_goOn
  rw [if_pos H.2.2.1, Ok_bd]
  refine (token_R T H hk).mono ?_
  rintro - ν1 h
  exact Ok_some.mpr h
theorem knot_R (H : MR b N t K base ν k o kn op) (h : kn < 64) : ∃ ν', f_X11_knot 181 ν = some ((), ν') ∧ MR b N t K base ν' k o (kn + 1) op ∧ Kx (ARx base) BN ν ν' := by
  refine ⟨sI ν 181 33 (nI (kn + 1)), ?_, ?_, Kx.rfl'.sI (by omega)⟩
  · unfold f_X11_knot
    rw [if_pos H.2.2.1, H.2.2.2.2.1, if_neg (show ¬ nI kn = 64 from fun z => by have := (nI_eq (b := 64) (by omega) (by decide)).mp z; omega), vl, nI_1]
  · obtain ⟨⟨h1, h1b, h1c⟩, h2, h3, h4, h5, h6, h7, h8⟩ := H
    have f : ∀ k j, ¬ (k = 181 ∧ j = 33) → (sI ν 181 33 (nI (kn + 1))).1 k j = ν.1 k j := fun k j h => by rw [sI_i, if_neg h]
    refine ⟨⟨by rw [f _ _ (by omega)]; exact h1, h1b, fun j hj => ⟨(h1c j hj).1, by rw [f _ _ (by omega)]; exact (h1c j hj).2⟩⟩, h2, by rw [f _ _ (by omega)]; exact h3, h4.of fun j a c => f _ _ (by omega), by rw [sI_i, if_pos ⟨rfl, rfl⟩], by rw [f _ _ (by omega)]; exact h6, by rw [f _ _ (by omega)]; exact h7, fun i hi => ?_⟩
    obtain ⟨p, p1, p2, p3⟩ := h8 i hi
    exact ⟨p, p1, by rw [f _ _ (by omega)]; exact p2, by rw [f _ _ (by omega)]; exact p3⟩
theorem knot_full (H : MR b N t K base ν k o kn op) (h : kn = 64) : ∃ ν', f_X11_knot 181 ν = some ((), ν') ∧ MF ν' t 2 k ∧ Kx (ARx base) BN ν ν' := by
  obtain ⟨ν', e, m, K1⟩ := wrong_eq H.2.2.1 H.2.2.2.1 2
  refine ⟨ν', ?_, m, K1.wide (fun k j h => by omega) (fun _ _ h => h)⟩
  unfold f_X11_knot
  rw [if_pos H.2.2.1, H.2.2.2.2.1, if_pos (show nI kn = 64 by rw [h]; rfl), show (2 : Int32) = nI 2 from rfl, e, bd_some]
theorem fresher_eq {w v : Nat} (hw : w < 7) (h : ν.1 183 (7 + w) = nI v) : f_X11_fresher 181 (nI w) ν = some (nI v, ν) := by
  unfold f_X11_fresher
  simp only [Nat.reduceAdd]
  rw [show (7 : Int32) + nI w = nI (7 + w) from nI_add 7 w, gd_t (ixN (by omega) (by decide)), nI_clamp (by omega), h]
theorem reads_eq {w : Nat} (hw : w < 7) (v : Int32) : f_X11_reads 181 (nI w) v ν = some ((), sI ν 183 (7 + w) v) := by
  unfold f_X11_reads
  simp only [Nat.reduceAdd]
  rw [show (7 : Int32) + nI w = nI (7 + w) from nI_add 7 w, gd_t (ixN (by omega) (by decide)), nI_clamp (by omega), vl]
theorem puts_R (H : MR b N t K base ν k o kn op) (h : base + o.length < 64) (p : Int32 × Int32) : ∃ ν', f_X11_puts 181 (cdm p).1 (cdm p).2 ν = some ((), ν') ∧ MR b N t K base ν' k (o ++ [p]) kn op ∧ Kx (ARx base) BN ν ν' := by
  obtain ⟨⟨h1, h1b, h1c⟩, h2, h3, h4, h5, h6, h7, h8⟩ := H
  have e1 : ∀ {m : fMem} {k j : Nat} {v : Int32}, ¬ k = 183 → (sI m k j v).1 183 13 = m.1 183 13 := by intro m k j v h; rw [sI_i, if_neg (by omega)]
  refine ⟨sI (sI (sI ν 199 (64 + base + o.length) (cdm p).1) 200 (64 + base + o.length) (cdm p).2) 183 13 (nI (base + o.length + 1)), ?_, ?_, ((Kx.rfl'.sI (by omega)).sI (by omega)).sI (by omega)⟩
  · unfold f_X11_puts
    simp only [Nat.reduceAdd]
    rw [if_pos h3, show (6 : Int32) = nI 6 from rfl, fresher_eq (w := 6) (v := base + o.length) (by decide) h7, bd_some, show (64 : Int32) = nI 64 from rfl, nI_add, ← Nat.add_assoc]
    simp only [gd_t (show ixo (nI (64 + base + o.length)) 128 from ixN (by omega) (by decide)), nI_clamp (show 64 + base + o.length < 2 ^ 31 by omega), vl]
    rw [fresher_eq (w := 6) (v := base + o.length) (by decide) (by rw [e1 (by omega)]; exact h7), bd_some, nI_add, ← Nat.add_assoc]
    simp only [gd_t (show ixo (nI (64 + base + o.length)) 128 from ixN (by omega) (by decide)), nI_clamp (show 64 + base + o.length < 2 ^ 31 by omega), vl]
    rw [fresher_eq (w := 6) (v := base + o.length) (by decide) (by rw [e1 (by omega), e1 (by omega)]; exact h7), bd_some, reads_eq (w := 6) (by decide), bd_some, nI_1]
  · have f : ∀ k j, ¬ (k = 183 ∧ j = 13) → ¬ ((k = 199 ∨ k = 200) ∧ j = 64 + base + o.length) → (sI (sI (sI ν 199 (64 + base + o.length) (cdm p).1) 200 (64 + base + o.length) (cdm p).2) 183 13 (nI (base + o.length + 1))).1 k j = ν.1 k j := fun k j a c => by rw [sI_i, if_neg (by omega), sI_i, if_neg (by omega), sI_i, if_neg (by omega)]
    refine ⟨⟨by rw [f _ _ (by omega) (by omega)]; exact h1, h1b, fun j hj => ⟨(h1c j hj).1, by rw [f _ _ (by omega) (by omega)]; exact (h1c j hj).2⟩⟩, h2, by rw [f _ _ (by omega) (by omega)]; exact h3, h4.of fun j a c => f _ _ (by omega) (by omega), by rw [f _ _ (by omega) (by omega)]; exact h5, by rw [f _ _ (by omega) (by omega)]; exact h6, by rw [sI_i, if_pos ⟨rfl, rfl⟩, List.length_append, List.length_singleton, Nat.add_assoc], fun i hi => ?_⟩
    rw [List.length_append, List.length_singleton] at hi
    rcases Nat.lt_or_ge i o.length with q | q
    · obtain ⟨p', p1, p2, p3⟩ := h8 i q
      exact ⟨p', by rw [List.getElem?_append_left q]; exact p1, by rw [f _ _ (by omega) (by omega)]; exact p2, by rw [f _ _ (by omega) (by omega)]; exact p3⟩
    · have : i = o.length := by omega
      subst this
      refine ⟨p, by rw [List.getElem?_append_right (Nat.le_refl _), Nat.sub_self]; rfl, ?_, ?_⟩
      · rw [sI_i, if_neg (by omega), sI_i, if_neg (by omega), sI_i, if_pos ⟨rfl, rfl⟩]
      · rw [sI_i, if_neg (by omega), sI_i, if_pos ⟨rfl, rfl⟩]
end RExp
theorem stp_kn {t : TQ} : ∀ {x y : ES}, stp t x = .inr y → x.2.2.2.2.1 ≤ y.2.2.2.2.1
  | (false, k, st, o, kn, op), y, e => by
    change stF t k st o kn op = .inr y at e
    unfold stF at e
    split at e
    · split at e
      · cases e; exact Nat.le_refl _
      · cases e
    · split at e
      · split at e
        · cases e; exact Nat.le_succ _
        · cases e
      · split at e
        · split at e
          · split at e
            · cases e
            · cases e; exact Nat.le_succ _
          · cases e
        · cases e
  | (true, k, st, o, kn, op), y, e => by
    change stT t k st o kn op = .inr y at e
    unfold stT at e
    split at e
    · cases e
    · split at e
      · split at e
        · cases e; exact Nat.le_refl _
        · cases e
      · split at e
        · cases e
        · split at e
          · cases e
          · split at e
            · cases e; exact Nat.le_succ _
            · cases e
theorem Rch.mono {t : TQ} {x y : ES} (r : Rch t x y) : x.2.1 ≤ y.2.1 ∧ x.2.2.2.2.1 ≤ y.2.2.2.2.1 := by
  obtain ⟨n, r⟩ := r
  induction n generalizing x with
  | zero => cases r; exact ⟨Nat.le_refl _, Nat.le_refl _⟩
  | succ n ih =>
    unfold itr at r
    cases e : stp t x with
    | inl c => rw [e] at r; cases r
    | inr w =>
      rw [e] at r
      have h1 := ih r
      have h2 := (stp_k e).1
      have h3 := stp_kn e
      exact ⟨by omega, by omega⟩
