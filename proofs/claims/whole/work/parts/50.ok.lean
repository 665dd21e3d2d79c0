/-! rules of the pure functions -/
def Ok {α β : Type} (x : Option (α × β)) (Q : α → β → Prop) : Prop := ∃ a b, x = some (a, b) ∧ Q a b
theorem Ok_some {α β : Type} {a : α} {b : β} {Q : α → β → Prop} : Ok (some (a, b)) Q ↔ Q a b := by
  constructor
  · rintro ⟨a', b', e, h⟩
    cases e
    exact h
  · exact fun h => ⟨a, b, rfl, h⟩
theorem Ok_bd {α β γ δ : Type} {x : Option (α × β)} {f : α → β → Option (γ × δ)} {Q : γ → δ → Prop} : Ok (bd x f) Q ↔ Ok x (fun a b => Ok (f a b) Q) := by
  constructor
  · rintro ⟨c, d, e, h⟩
    obtain ⟨a, b, e1, e2⟩ := bd_ok e
    exact ⟨a, b, e1, c, d, e2, h⟩
  · rintro ⟨a, b, e1, c, d, e2, h⟩
    exact ⟨c, d, by rw [e1]; exact e2, h⟩
theorem Ok_gd {α β : Type} {c : Prop} [Decidable c] {x : Option (α × β)} {Q : α → β → Prop} : Ok (gd c x) Q ↔ c ∧ Ok x Q := by
  constructor
  · rintro ⟨a, b, e, h⟩
    obtain ⟨h1, h2⟩ := gd_ok e
    exact ⟨h1, a, b, h2, h⟩
  · rintro ⟨h1, a, b, h2, h⟩
    exact ⟨a, b, by rw [gd_t h1]; exact h2, h⟩
theorem Ok_vl {γ α β : Type} {v : γ} {k : γ → Option (α × β)} {Q : α → β → Prop} : Ok (vl v k) Q ↔ Ok (k v) Q := Iff.rfl
theorem Ok_if {α β : Type} {c : Prop} [Decidable c] {x y : Option (α × β)} {Q : α → β → Prop} : Ok (if c then x else y) Q ↔ (c → Ok x Q) ∧ (¬ c → Ok y Q) := by
  by_cases h : c <;> simp [h]
theorem Ok.mono {α β : Type} {x : Option (α × β)} {Q Q' : α → β → Prop} (h : Ok x Q) (hm : ∀ a b, Q a b → Q' a b) : Ok x Q' := by
  obtain ⟨a, b, e, q⟩ := h
  exact ⟨a, b, e, hm a b q⟩
theorem Ok_eq {α β : Type} {x : Option (α × β)} {a : α} {b : β} {Q : α → β → Prop} (h : x = some (a, b)) : Ok x Q ↔ Q a b := by rw [h]; exact Ok_some
/-- a counted loop: at most N turns -/
theorem Ok_lp {σ : Type} {b : σ → Option (Nat × σ)} {s : σ} (N : Nat) (I : Nat → σ → Prop) {Q : Nat → σ → Prop} (hN : N < 5000) (h0 : I 0 s) (hs : ∀ i s, i ≤ N → I i s → Ok (b s) (fun t s' => (t = 0 ∧ i < N ∧ I (i + 1) s') ∨ ∃ u, t = u + 1 ∧ Q u s')) : Ok (lpn b fuel s) Q := by
  refine lpF I Q N hN h0 (fun i s hi h => ?_) (fun s h => ?_)
  · obtain ⟨t, s', e, q⟩ := hs i s (Nat.le_of_lt hi) h
    rcases q with ⟨rfl, -, q⟩ | ⟨u, rfl, q⟩
    · exact Or.inl ⟨s', e, q⟩
    · exact Or.inr ⟨u, s', e, q⟩
  · obtain ⟨t, s', e, q⟩ := hs N s (Nat.le_refl _) h
    rcases q with ⟨rfl, h1, q⟩ | ⟨u, rfl, q⟩
    · exact absurd h1 (Nat.lt_irrefl _)
    · exact ⟨u, s', e, q⟩
/-- what stays: places other than these -/
def Kp (A B : List Nat) (μ μ' : fMem) : Prop := μ'.2.2 = μ.2.2 ∧ (∀ k, k ∉ A → μ'.1 k = μ.1 k) ∧ ∀ k, k ∉ B → μ'.2.1 k = μ.2.1 k
theorem Kp.rfl' {A B : List Nat} {μ : fMem} : Kp A B μ μ := ⟨rfl, fun _ _ => rfl, fun _ _ => rfl⟩
theorem Kp.trans {A B : List Nat} {μ μ1 μ2 : fMem} (h : Kp A B μ μ1) (h2 : Kp A B μ1 μ2) : Kp A B μ μ2 := ⟨h2.1.trans h.1, fun k q => (h2.2.1 k q).trans (h.2.1 k q), fun k q => (h2.2.2 k q).trans (h.2.2 k q)⟩
theorem Kp.wide {A B A' B' : List Nat} {μ μ1 : fMem} (h : Kp A B μ μ1) (ha : ∀ k, k ∈ A → k ∈ A') (hb : ∀ k, k ∈ B → k ∈ B') : Kp A' B' μ μ1 := ⟨h.1, fun k q => h.2.1 k (fun z => q (ha k z)), fun k q => h.2.2 k (fun z => q (hb k z))⟩
theorem Kp.i {A B : List Nat} {μ μ1 : fMem} (h : Kp A B μ μ1) {k : Nat} (hk : k ∉ A) (j : Nat) : μ1.1 k j = μ.1 k j := by rw [h.2.1 k hk]
theorem Kp.l {A B : List Nat} {μ μ1 : fMem} (h : Kp A B μ μ1) {k : Nat} (hk : k ∉ B) (j : Nat) : μ1.2.1 k j = μ.2.1 k j := by rw [h.2.2 k hk]
theorem Kp.r {A B : List Nat} {μ μ1 : fMem} (h : Kp A B μ μ1) (k j : Nat) : μ1.2.2 k j = μ.2.2 k j := by rw [h.1]
theorem Kp.sI {A B : List Nat} {μ μ1 : fMem} (h : Kp A B μ μ1) {k j : Nat} {v : Int32} (hk : k ∈ A) : Kp A B μ (sI μ1 k j v) := ⟨h.1, fun k' q => by
  show fu μ1.1 k j v k' = _
  rw [fu_row (fun (e : k' = k) => q (by rw [e]; exact hk))]
  exact h.2.1 k' q, h.2.2⟩
theorem Kp.sL {A B : List Nat} {μ μ1 : fMem} (h : Kp A B μ μ1) {k j : Nat} {v : Int64} (hk : k ∈ B) : Kp A B μ (sL μ1 k j v) := ⟨h.1, h.2.1, fun k' q => by
  show fu μ1.2.1 k j v k' = _
  rw [fu_row (fun (e : k' = k) => q (by rw [e]; exact hk))]
  exact h.2.2 k' q⟩
theorem sI_i {μ : fMem} {k j k' j' : Nat} {v : Int32} : (sI μ k j v).1 k' j' = if k' = k ∧ j' = j then v else μ.1 k' j' := by
  show fu μ.1 k j v k' j' = _
  unfold fu
  by_cases h : k' = k
  · subst h
    by_cases h2 : j' = j <;> simp [h2]
  · simp [h]
theorem sI_l {μ : fMem} {k j : Nat} {v : Int32} : (sI μ k j v).2.1 = μ.2.1 := rfl
theorem sI_r {μ : fMem} {k j : Nat} {v : Int32} : (sI μ k j v).2.2 = μ.2.2 := rfl
theorem sL_l {μ : fMem} {k j k' j' : Nat} {v : Int64} : (sL μ k j v).2.1 k' j' = if k' = k ∧ j' = j then v else μ.2.1 k' j' := by
  show fu μ.2.1 k j v k' j' = _
  unfold fu
  by_cases h : k' = k
  · subst h
    by_cases h2 : j' = j <;> simp [h2]
  · simp [h]
theorem sL_i {μ : fMem} {k j : Nat} {v : Int64} : (sL μ k j v).1 = μ.1 := rfl
theorem sL_r {μ : fMem} {k j : Nat} {v : Int64} : (sL μ k j v).2.2 = μ.2.2 := rfl
theorem sR_i {μ : fMem} {k j : Nat} {v : Nat} : (sR μ k j v).1 = μ.1 := rfl
theorem sR_l {μ : fMem} {k j : Nat} {v : Nat} : (sR μ k j v).2.1 = μ.2.1 := rfl
theorem sR_r {μ : fMem} {k j k' j' : Nat} {v : Nat} : (sR μ k j v).2.2 k' j' = if k' = k ∧ j' = j then v else μ.2.2 k' j' := by
  show fu μ.2.2 k j v k' j' = _
  unfold fu
  by_cases h : k' = k
  · subst h
    by_cases h2 : j' = j <;> simp [h2]
  · simp [h]
