/-! both states beside each other -/
abbrev SK : Type := Nat × Nat × Int32
abbrev RX : Type := Option SV × List SK × (Nat × (Nat → Nat → Int32) × Int32) × (Nat × (Nat → Int32)) × (Int32 × Int32)
/-- a stand at rest -/
def SR (V : HV) (S : SV) : Prop := (∀ t, t < V.1 2 → ∃ r, r < V.1 0 ∧ S 0 t = nI r) ∧ (∃ m, m ≤ 9900 ∧ S 6 0 = nI m) ∧ (∀ j, V.1 2 ≤ j → j < 8 → S 1 j = 0 ∧ S 2 j = 0) ∧ ∀ j, V.1 3 ≤ j → j < 6 → S 4 j = 0
theorem SR.w {V : HV} {S : SV} (h : SR V S) : SW V S := ⟨fun t ht => Or.inr (h.1 t ht), by obtain ⟨m, hm, e⟩ := h.2.1; exact ⟨m, by omega, e⟩, h.2.2⟩
def rop (x : Int32) (r : Nat) (was : Int32) : Int32 := if was = 0 then x &&& (shl 1 (nI r) ^^^ -1) else x ||| shl 1 (nI r)
def undo1 (S : SV) (p : SK) : SV := if p.1 = 0 then up S 0 p.2.1 p.2.2 else if p.1 = 1 then up S 5 0 (rop (S 5 0) p.2.1 p.2.2) else up S 3 p.2.1 p.2.2
def SKw (V : HV) (p : SK) : Prop := (p.1 = 0 ∧ p.2.1 < V.1 2 ∧ ∃ r, r < V.1 0 ∧ p.2.2 = nI r) ∨ (p.1 = 1 ∧ p.2.1 < V.1 0 ∧ bl p.2.2) ∨ (p.1 = 2 ∧ p.2.1 < V.1 0)
def CTr (μ : fMem) : List SK → Prop
  | [] => True
  | p :: L => μ.1 131 L.length = nI p.1 ∧ μ.1 132 L.length = nI p.2.1 ∧ μ.1 133 L.length = p.2.2 ∧ CTr μ L
def MUr (ν : fMem) (V : HV) : SV → List SK → Prop
  | _, [] => True
  | S, p :: L => MSt ν (3 + L.length) V (undo1 S p) 0 (-1) ∧ MUr ν V (undo1 S p) L
def NW (V : HV) (N : Nat × (Nat → Nat → Int32) × Int32) : Prop := N.1 ≤ 24 ∧ (N.2.2 = -1 ∨ ∃ j, j ≤ N.1 ∧ N.2.2 = nI j) ∧ ∀ k, k < N.1 → (N.2.1 4 k = -1 ∧ (∃ m, 1 ≤ m ∧ m ≤ 30 ∧ N.2.1 0 k = nI m) ∧ (∃ t, t < V.1 2 ∧ N.2.1 1 k = nI t) ∧ (∃ r, r < V.1 0 ∧ N.2.1 2 k = nI r) ∧ bl (N.2.1 3 k)) ∨ ∃ j, j < k ∧ N.2.1 4 k = nI j
def CN (μ : fMem) (N : Nat × (Nat → Nat → Int32) × Int32) : Prop := μ.1 123 0 = nI N.1 ∧ μ.1 123 1 = N.2.2 ∧ ∀ k, k < N.1 → μ.1 128 k = N.2.1 4 k ∧ (N.2.1 4 k = -1 → μ.1 124 k = N.2.1 0 k ∧ μ.1 125 k = N.2.1 1 k ∧ μ.1 126 k = N.2.1 2 k ∧ μ.1 127 k = N.2.1 3 k)
def MN (ν : fMem) (N : Nat × (Nat → Nat → Int32) × Int32) : Prop := ν.1 181 57 = nI N.1 ∧ ν.1 181 58 = N.2.2 ∧ ∀ k, k < N.1 → ν.1 219 k = N.2.1 4 k ∧ (N.2.1 4 k = -1 → ν.1 215 k = N.2.1 0 k ∧ ν.1 216 k = N.2.1 1 k ∧ ν.1 217 k = N.2.1 2 k ∧ ν.1 218 k = N.2.1 3 k)
def XW (V : HV) (X : RX) : Prop := (∀ I, X.1 = some I → SR V I) ∧ (X.2.1.length ≤ 20 ∧ ∀ p ∈ X.2.1, SKw V p) ∧ NW V X.2.2.1 ∧ X.2.2.2.1.1 ≤ 700 ∧ ∀ j, j < X.2.2.2.1.1 → Upto 255 (X.2.2.2.1.2 j)
def CI (μ : fMem) (V : HV) : Option SV → Prop
  | none => μ.1 0 6 = 0
  | some I => μ.1 0 6 = 1 ∧ CS μ 72 V I
def MI (ν : fMem) (V : HV) : Option SV → Prop
  | none => ν.1 181 45 = 0
  | some I => ν.1 181 45 = 1 ∧ MSt ν 2 V I 0 (-1)
/-- the class -/
def RC (μ : fMem) (V : HV) (S : SV) (X : RX) (h : Nat) : Prop := (h = 2 ∨ h = 37) ∧ μ.2.2 0 2 = h ∧ μ.2.2 30 3 = 39 - h ∧ CH μ h V ∧ CS μ 66 V S ∧ CC μ V ∧ CI μ V X.1 ∧ (μ.1 130 0 = nI X.2.1.length ∧ CTr μ X.2.1) ∧ CN μ X.2.2.1 ∧ (μ.1 0 1 = nI X.2.2.2.1.1 ∧ ∀ j, j < X.2.2.2.1.1 → μ.1 1 j = X.2.2.2.1.2 j) ∧ μ.1 30 0 = X.2.2.2.2.1 ∧ μ.1 30 1 = X.2.2.2.2.2 ∧ ∀ j, j < 20 → μ.1 32 j = lwT j
def MZ (ν : fMem) : Prop := ν.1 181 47 = 0 ∧ ν.1 181 48 = -1 ∧ ν.1 181 49 = -1 ∧ ν.1 181 50 = -1
/-- the reference -/
def RM (ν : fMem) (V : HV) (S : SV) (X : RX) : Prop := MH ν V ∧ MSt ν 0 V S 0 (-1) ∧ MZ ν ∧ MI ν V X.1 ∧ (ν.1 181 46 = nI X.2.1.length ∧ MUr ν V S X.2.1) ∧ MN ν X.2.2.1 ∧ (ν.1 181 2 = nI X.2.2.2.1.1 ∧ ∀ j, j < X.2.2.2.1.1 → ν.1 182 j = X.2.2.2.1.2 j) ∧ ν.1 181 30 = X.2.2.2.2.1 ∧ ν.1 181 31 = X.2.2.2.2.2
def Rel (μ ν : fMem) : Prop := ∃ V S X h, HW V ∧ SR V S ∧ XW V X ∧ RC μ V S X h ∧ RM ν V S X
/-- what only passing work touches -/
def KE (μ μ' : fMem) : Prop := (∀ k, k < 78 ∨ (123 ≤ k ∧ k < 129) ∨ (130 ≤ k ∧ k < 134) → μ'.1 k = μ.1 k) ∧ ∀ k j, k ≠ 84 → μ'.2.2 k j = μ.2.2 k j
def AE (k j : Nat) : Prop := (k = 181 ∧ (j = 0 ∨ j = 36 ∨ j = 53)) ∨ Px 1 k j ∨ (211 ≤ k ∧ k ≤ 214) ∨ k = 220
abbrev KR (ν ν' : fMem) : Prop := Kx AE B0 ν ν'
theorem KE.rfl' {μ : fMem} : KE μ μ := ⟨fun _ _ => rfl, fun _ _ _ => rfl⟩
theorem KE.trans {μ μ1 μ2 : fMem} (a : KE μ μ1) (b : KE μ1 μ2) : KE μ μ2 := ⟨fun k h => (b.1 k h).trans (a.1 k h), fun k j h => (b.2 k j h).trans (a.2 k j h)⟩
theorem KE.kp {A B : List Nat} {μ μ1 : fMem} (h : Kp A B μ μ1) (hA : ∀ k ∈ A, (78 ≤ k ∧ k < 123) ∨ k = 129 ∨ 134 ≤ k) : KE μ μ1 := ⟨fun k hk => h.2.1 k (fun z => by have := hA k z; omega), fun k j _ => by rw [h.1]⟩
theorem CTr.of {μ μ' : fMem} (e : ∀ k, 131 ≤ k → k ≤ 133 → μ'.1 k = μ.1 k) : ∀ {L : List SK}, CTr μ L → CTr μ' L
  | [], _ => trivial
  | p :: L, h => by
    unfold CTr at h ⊢
    rw [e 131 (by omega) (by omega), e 132 (by omega) (by omega), e 133 (by omega) (by omega)]
    exact ⟨h.1, h.2.1, h.2.2.1, CTr.of e h.2.2.2⟩
theorem CI.of {μ μ' : fMem} {V : HV} (e : ∀ k, k < 78 → μ'.1 k = μ.1 k) : ∀ {I : Option SV}, CI μ V I → CI μ' V I
  | none, h => by unfold CI at h ⊢; rw [e 0 (by omega)]; exact h
  | some I, h => by unfold CI at h ⊢; rw [e 0 (by omega)]; exact ⟨h.1, h.2.of fun k a b => e k (by omega)⟩
theorem CN.of {μ μ' : fMem} {N : Nat × (Nat → Nat → Int32) × Int32} (e : ∀ k, 123 ≤ k → k ≤ 128 → μ'.1 k = μ.1 k) (h : CN μ N) : CN μ' N := by
  unfold CN at h ⊢
  rw [e 123 (by omega) (by omega), e 124 (by omega) (by omega), e 125 (by omega) (by omega), e 126 (by omega) (by omega), e 127 (by omega) (by omega), e 128 (by omega) (by omega)]
  exact h
theorem RC.ke {μ μ' : fMem} {V : HV} {S : SV} {X : RX} {h : Nat} (H : RC μ V S X h) (K : KE μ μ') (C : CC μ' V) : RC μ' V S X h := by
  obtain ⟨h1, h2, h3, h4, h5, h6, h7, h8, h9, h10, h11, h12, h13⟩ := H
  have e : ∀ k, k < 78 → μ'.1 k = μ.1 k := fun k hk => K.1 k (Or.inl hk)
  have e3 : ∀ k, 130 ≤ k → k < 134 → μ'.1 k = μ.1 k := fun k a b => K.1 k (Or.inr (Or.inr ⟨a, b⟩))
  refine ⟨h1, by rw [K.2 0 2 (by omega)]; exact h2, by rw [K.2 30 3 (by omega)]; exact h3, h4.of fun k a b => e k (by rcases h1 with rfl | rfl <;> omega), h5.of fun k a b => e k (by omega), C, CI.of e h7, ⟨by rw [e3 130 (by omega) (by omega)]; exact h8.1, CTr.of (fun k a b => e3 k (by omega) (by omega)) h8.2⟩, CN.of (fun k a b => K.1 k (Or.inr (Or.inl ⟨by omega, by omega⟩))) h9, ?_, ?_, ?_, ?_⟩
  · rw [e 0 (by omega), e 1 (by omega)]; exact h10
  · rw [e 30 (by omega)]; exact h11
  · rw [e 30 (by omega)]; exact h12
  · rw [e 32 (by omega)]; exact h13
theorem MUr.of {ν ν' : fMem} {V : HV} (h8 : V.1 2 ≤ 8) (e : ∀ c y j, 3 ≤ y → y < 23 → Px y c j → ν'.1 c j = ν.1 c j) : ∀ {L : List SK} {S : SV}, L.length ≤ 20 → MUr ν V S L → MUr ν' V S L
  | [], _, _, _ => trivial
  | p :: L, S, hl, h => by
    simp only [List.length_cons] at hl
    unfold MUr at h ⊢
    exact ⟨h.1.of h8 (fun c a b j hj => e c (3 + L.length) _ (by omega) (by omega) (Or.inr (Or.inl ⟨a, b, by omega, by omega⟩))) (fun c a b j hj => e c (3 + L.length) _ (by omega) (by omega) (Or.inr (Or.inr ⟨a, b, by omega, by omega⟩))) (e 205 _ _ (by omega) (by omega) (Or.inl ⟨by omega, by omega, rfl⟩)) (e 203 _ _ (by omega) (by omega) (Or.inl ⟨by omega, by omega, rfl⟩)), MUr.of h8 e (by omega) h.2⟩
theorem MN.of {ν ν' : fMem} {N : Nat × (Nat → Nat → Int32) × Int32} (e : ∀ j, 57 ≤ j → j ≤ 58 → ν'.1 181 j = ν.1 181 j) (e2 : ∀ c j, 215 ≤ c → c ≤ 219 → ν'.1 c j = ν.1 c j) (h : MN ν N) : MN ν' N := by
  obtain ⟨h1, h2, h3⟩ := h
  refine ⟨by rw [e 57 (by omega) (by omega)]; exact h1, by rw [e 58 (by omega) (by omega)]; exact h2, fun k hk => ?_⟩
  rw [e2 219 k (by omega) (by omega), e2 215 k (by omega) (by omega), e2 216 k (by omega) (by omega), e2 217 k (by omega) (by omega), e2 218 k (by omega) (by omega)]
  exact h3 k hk
theorem MI.of {ν ν' : fMem} {V : HV} (h8 : V.1 2 ≤ 8) (e : ν'.1 181 45 = ν.1 181 45) (e2 : ∀ c j, Px 2 c j → ν'.1 c j = ν.1 c j) : ∀ {I : Option SV}, MI ν V I → MI ν' V I
  | none, h => by unfold MI at h ⊢; rw [e]; exact h
  | some I, h => by
    unfold MI at h ⊢
    rw [e]
    exact ⟨h.1, h.2.of h8 (fun c a b j hj => e2 c _ (Or.inr (Or.inl ⟨a, b, by omega, by omega⟩))) (fun c a b j hj => e2 c _ (Or.inr (Or.inr ⟨a, b, by omega, by omega⟩))) (e2 205 _ (Or.inl ⟨by omega, by omega, rfl⟩)) (e2 203 _ (Or.inl ⟨by omega, by omega, rfl⟩))⟩
theorem RM.kr {ν ν' : fMem} {V : HV} {S : SV} {X : RX} (hV : HW V) (hX : XW V X) (H : RM ν V S X) (K : KR ν ν') : RM ν' V S X := by
  obtain ⟨h1, h2, h3, h4, h5, h6, h7, h8, h9⟩ := H
  have v8 : V.1 2 ≤ 8 := hV.2.2.1
  have e : ∀ j, ¬ (j = 0 ∨ j = 36 ∨ j = 53) → ν'.1 181 j = ν.1 181 j := fun j hj => K.2.1 181 j (by unfold AE Px; omega)
  refine ⟨h1.of hV (fun c a b j _ => K.2.1 c j (by unfold AE Px; omega)), h2.of v8 (fun c a b j hj => K.2.1 c _ (by unfold AE Px; omega)) (fun c a b j hj => K.2.1 c _ (by unfold AE Px; omega)) (K.2.1 _ _ (by unfold AE Px; omega)) (K.2.1 _ _ (by unfold AE Px; omega)), ?_, MI.of v8 (e 45 (by omega)) (fun c j q => K.2.1 c j (by unfold AE; unfold Px at q ⊢; omega)) h4, ⟨by rw [e 46 (by omega)]; exact h5.1, MUr.of v8 (fun c y j a b q => K.2.1 c j (by unfold AE; unfold Px at q ⊢; omega)) hX.2.1.1 h5.2⟩, MN.of (fun j a b => e j (by omega)) (fun c j a b => K.2.1 c j (by unfold AE Px; omega)) h6, ⟨by rw [e 2 (by omega)]; exact h7.1, fun j hj => by rw [K.2.1 182 j (by unfold AE Px; omega)]; exact h7.2 j hj⟩, by rw [e 30 (by omega)]; exact h8, by rw [e 31 (by omega)]; exact h9⟩
  unfold MZ at h3 ⊢
  rw [e 47 (by omega), e 48 (by omega), e 49 (by omega), e 50 (by omega)]
  exact h3
/-- an answer of the class that changes nothing -/
abbrev QC {α : Type} (x : Option (α × fMem)) (μ : fMem) (V : HV) (a : α) : Prop := Ok x (fun r μ' => r = a ∧ KE μ μ' ∧ CC μ' V)
abbrev QM {α : Type} (x : Option (α × fMem)) (ν : fMem) (a : α) : Prop := Ok x (fun r ν' => r = a ∧ KR ν ν')
theorem simQ {α : Type} {f g : fMem → Option (α × fMem)} (H : ∀ μ ν V S X h, HW V → SR V S → XW V X → RC μ V S X h → RM ν V S X → ∃ a, QC (f μ) μ V a ∧ QM (g ν) ν a) : Sim Rel f g := by
  rintro μ ν ⟨V, S, X, h, hV, hS, hX, hC, hM⟩
  obtain ⟨a, ⟨r, μ', e1, rfl, k1, k2⟩, ⟨r', ν', e2, rfl, k3⟩⟩ := H μ ν V S X h hV hS hX hC hM
  exact ⟨r', μ', ν', e1, e2, V, S, X, h, hV, hS, hX, hC.ke k1 k2, hM.kr hV hX k3⟩
theorem KR.thrown {ν : fMem} (v : Int32) : KR ν (sI ν 181 0 v) := Kx.rfl'.sI (Or.inl ⟨rfl, Or.inl rfl⟩)
theorem KM.r {ν ν' : fMem} (K : KM ν ν') : KR ν ν' := K.wide (fun _ _ z => Or.inl ⟨z.1, Or.inr (Or.inl z.2)⟩) (fun _ _ z => z)
theorem KX.r {ν ν' : fMem} (K : KX 1 ν ν') : KR ν ν' := K.wide (fun _ _ z => z.elim (fun z => Or.inl ⟨z.1, Or.inr (Or.inl z.2)⟩) (fun z => Or.inr (Or.inl z))) (fun _ _ z => z)
theorem Kx.pr {ν ν' : fMem} (K : Kx (Px 1) BN ν ν') : KR ν ν' := K.wide (fun _ _ z => Or.inr (Or.inl z)) (fun _ _ z => absurd z id)
theorem RM.mrp {ν : fMem} {V : HV} {S : SV} {X : RX} (hV : HW V) (hS : SR V S) (H : RM ν V S X) : Mrp ν V 0 S (V.2.1 3) 0 (-1) (-1) := by
  refine ⟨hV, hS.w, H.1, H.2.1, ⟨H.2.2.1.1, H.2.2.1.2.1, fun d hd => ⟨(hV.2.2.2.2.2.2.2.1 d hd).1, ?_⟩, H.2.2.1.2.2.1⟩, by omega⟩
  have h6 : V.1 3 ≤ 6 := hV.2.2.2.1
  rw [H.2.2.1.2.2.2, if_neg (nI_nm1 (by omega))]
/-! the class' stands -/
theorem cpy_ne {μ : fMem} {k0 k1 k : Nat} {sp dp n : Int32} (h : k ≠ k1) : (cpy μ k0 sp k1 dp n).1 k = μ.1 k := sRow_ne h
theorem cpy_at {μ : fMem} {k0 k1 j n : Nat} (h : j < n) (hn : n < 2 ^ 31) : (cpy μ k0 0 k1 0 (nI n)).1 k1 j = μ.1 k0 j := by
  unfold cpy
  rw [sRow_at]
  unfold va_cpy
  rw [nI_clamp hn, show (0 : Int32).toNatClampNeg = 0 by decide, if_pos ⟨by omega, by omega⟩, show 0 + (j - 0) = j by omega]
theorem cpy_l {μ : fMem} {k0 k1 : Nat} {sp dp n : Int32} : (cpy μ k0 sp k1 dp n).2 = μ.2 := rfl
theorem Kp.cpy {A B : List Nat} {μ μ1 : fMem} (h : Kp A B μ μ1) {k0 k1 : Nat} {sp dp n : Int32} (hk : k1 ∈ A) : Kp A B μ (cpy μ1 k0 sp k1 dp n) := ⟨h.1, fun k q => by rw [cpy_ne (fun e => q (by rw [e]; exact hk))]; exact h.2.1 k q, h.2.2⟩
theorem Kp.sRow {A B : List Nat} {μ μ1 : fMem} (h : Kp A B μ μ1) {k : Nat} {f : Nat → Int32} (hk : k ∈ A) : Kp A B μ (sRow μ1 k f) := ⟨h.1, fun k' q => by rw [sRow_ne (fun e => q (by rw [e]; exact hk))]; exact h.2.1 k' q, h.2.2⟩
abbrev sS (s : Nat) : List Nat := [s, s + 1, s + 2, s + 3, s + 4, s + 5]
theorem copy_spec {μ : fMem} {V : HV} {S : SV} {s s' : Nat} (h8 : V.1 2 ≤ 8) (H : CS μ s V S) (hs : s' + 6 ≤ s ∨ s + 6 ≤ s') : Ok (f_X7_copy s' s μ) (fun _ μ' => CS μ' s' V S ∧ Kp (sS s') [] μ μ') := by
  unfold f_X7_copy
  simp only [gd_t (show cpo (0 : Int32) 0 8 8 8 by decide), gd_t (show cpo (0 : Int32) 0 6 6 6 by decide)]
  rw [Ok_vl, Ok_vl, Ok_vl, Ok_vl, Ok_vl, Ok_vl, Ok_vl, Ok_some]
  obtain ⟨h1, h2, h3, h4, h5, h6, h7, h9⟩ := H
  have c8 : ∀ {μ : fMem} {k0 k1 j : Nat}, j < 8 → (cpy μ k0 0 k1 0 8).1 k1 j = μ.1 k0 j := fun h => cpy_at (n := 8) h (by decide)
  have c6 : ∀ {μ : fMem} {k0 k1 j : Nat}, j < 6 → (cpy μ k0 0 k1 0 6).1 k1 j = μ.1 k0 j := fun h => cpy_at (n := 6) h (by decide)
  refine ⟨⟨fun j hj => ?_, fun j hj => ?_, fun j hj => ?_, fun j hj => ?_, fun j hj => ?_, ?_, ?_, fun j a b => ?_⟩, ?_⟩
  · rw [sI_i, if_neg (by omega), sI_i, if_neg (by omega), cpy_ne (by omega), cpy_ne (by omega), cpy_ne (by omega), cpy_ne (by omega), c8 (by omega)]; exact h1 j hj
  · rw [sI_i, if_neg (by omega), sI_i, if_neg (by omega), cpy_ne (by omega), cpy_ne (by omega), cpy_ne (by omega), c8 (by omega), cpy_ne (by omega)]; exact h2 j hj
  · rw [sI_i, if_neg (by omega), sI_i, if_neg (by omega), cpy_ne (by omega), cpy_ne (by omega), c8 (by omega), cpy_ne (by omega), cpy_ne (by omega)]; exact h3 j hj
  · rw [sI_i, if_neg (by omega), sI_i, if_neg (by omega), cpy_ne (by omega), c6 (by omega), cpy_ne (by omega), cpy_ne (by omega), cpy_ne (by omega)]; exact h4 j hj
  · rw [sI_i, if_neg (by omega), sI_i, if_neg (by omega), c6 (by omega), cpy_ne (by omega), cpy_ne (by omega), cpy_ne (by omega), cpy_ne (by omega)]; exact h5 j hj
  · rw [sI_i, if_neg (by omega), sI_i, if_pos ⟨rfl, rfl⟩, cpy_ne (by omega), cpy_ne (by omega), cpy_ne (by omega), cpy_ne (by omega), cpy_ne (by omega)]; exact h6
  · rw [sI_i, if_pos ⟨rfl, rfl⟩, sI_i, if_neg (by omega), cpy_ne (by omega), cpy_ne (by omega), cpy_ne (by omega), cpy_ne (by omega), cpy_ne (by omega)]; exact h7
  · rw [sI_i, if_neg (by omega), sI_i, if_neg (by omega), cpy_ne (by omega), cpy_ne (by omega), cpy_ne (by omega), cpy_ne (by omega), c8 (by omega)]; exact h9 j a b
  · exact ((((((Kp.rfl'.cpy (by simp [sS])).cpy (by simp [sS])).cpy (by simp [sS])).cpy (by simp [sS])).cpy (by simp [sS])).sI (by simp [sS])).sI (by simp [sS])
theorem enter_spec {μ : fMem} {V : HV} {s h : Nat} (hV : HW V) (H : CH μ h V) (hh : h = 2 ∨ h = 37) (hz : s = 66 ∨ s = 78) : Ok (f_X7_enter s h μ) (fun _ μ' => CS μ' s V (S0 V) ∧ Kp (sS s) [] μ μ') := by
  have h8 : V.1 2 ≤ 8 := hV.2.2.1
  have k1 : kd (s + 1) = (0, 8) := by rcases hz with rfl | rfl <;> decide
  have k2 : kd (s + 2) = (0, 8) := by rcases hz with rfl | rfl <;> decide
  have k3 : kd (s + 3) = (0, 8) := by rcases hz with rfl | rfl <;> decide
  have k4 : kd (s + 4) = (0, 6) := by rcases hz with rfl | rfl <;> decide
  have k5 : kd (s + 5) = (0, 6) := by rcases hz with rfl | rfl <;> decide
  unfold f_X7_enter
  rw [fill_spec (s + 1) (-1) μ k1 (by decide), bd_some, Ok_bd]
  refine Ok.mono (Q := fun u (q : Int32 × fMem) => Kp (sS s) [] μ q.2 ∧ ∀ j, j < 8 → q.2.1 (s + 1) j = if j < V.1 2 then V.2.1 0 j else -1) (Ok_lp (V.1 2) (fun i (q : Int32 × fMem) => q.1 = nI i ∧ Kp (sS s) [] μ q.2 ∧ ∀ j, j < 8 → q.2.1 (s + 1) j = if j < i then V.2.1 0 j else -1) (by omega) ⟨rfl, Kp.rfl'.sRow (by simp [sS]), fun j hj => by rw [sRow_at, if_pos hj, if_neg (by omega)]⟩ ?_) ?_
  · rintro i ⟨z, μ1⟩ hi ⟨hz', K1, d1⟩
    dsimp only at hz' K1 d1 ⊢
    subst hz'
    have H1 : CH μ1 h V := H.of fun k a b => K1.2.1 k (by simp only [sS, List.mem_cons, List.not_mem_nil, or_false]; rcases hh with rfl | rfl <;> rcases hz with rfl | rfl <;> omega)
    unfold f_X7_enter_L10
    rw [told2 H1, bd_some]
    rcases Nat.lt_or_ge i (V.1 2) with q | q
    · rw [if_neg (nI_ge q (by omega)), if_neg (show ¬ 8 ≤ nI i from nI_ge (b := 8) (by omega) (by omega)), gd_t (ixN (by omega) (by omega)), gd_t (ixN (by omega) (by omega)), nI_clamp (by omega), Ok_vl, Ok_vl, nI_1, Ok_some, (H1.2.2.1 i q).1]
      refine Or.inl ⟨rfl, q, rfl, K1.sI (by simp [sS]), fun j hj => ?_⟩
      rw [sI_i]
      by_cases e : j = i
      · subst e
        rw [if_pos ⟨rfl, rfl⟩, if_pos (by omega)]
      · rw [if_neg (fun w => e w.2), d1 j hj]
        by_cases c : j < i
        · rw [if_pos c, if_pos (by omega)]
        · rw [if_neg c, if_neg (by omega)]
    · rw [if_pos (nI_le q (by omega)), Ok_some]
      have : i = V.1 2 := by omega
      subst this
      exact Or.inr ⟨0, rfl, K1, d1⟩
  · rintro u ⟨z, μ1⟩ ⟨K1, d1⟩
    dsimp only at K1 d1 ⊢
    rw [fill_spec (s + 2) 0 μ1 k2 (by decide), bd_some, fill_spec (s + 3) 0 _ k3 (by decide), bd_some, fill_spec (s + 4) 0 _ k4 (by decide), bd_some, fill_spec (s + 5) 0 _ k5 (by decide), bd_some, Ok_vl, Ok_vl, Ok_some]
    refine ⟨⟨fun j hj => ?_, fun j hj => ?_, fun j hj => ?_, fun j hj => ?_, fun j hj => ?_, ?_, ?_, fun j a b => ?_⟩, ((((((K1.sRow (by simp [sS])).sRow (by simp [sS])).sRow (by simp [sS])).sRow (by simp [sS])).sI (by simp [sS])).sI (by simp [sS]))⟩
    · rw [sI_i, if_neg (by omega), sI_i, if_neg (by omega), sRow_ne (by omega), sRow_ne (by omega), sRow_ne (by omega), sRow_ne (by omega), d1 j (by omega), if_pos hj]; rfl
    · rw [sI_i, if_neg (by omega), sI_i, if_neg (by omega), sRow_ne (by omega), sRow_ne (by omega), sRow_ne (by omega), sRow_at, if_pos hj]; rfl
    · rw [sI_i, if_neg (by omega), sI_i, if_neg (by omega), sRow_ne (by omega), sRow_ne (by omega), sRow_at, if_pos hj]; rfl
    · rw [sI_i, if_neg (by omega), sI_i, if_neg (by omega), sRow_ne (by omega), sRow_at, if_pos hj]; rfl
    · rw [sI_i, if_neg (by omega), sI_i, if_neg (by omega), sRow_at, if_pos hj]; rfl
    · rw [sI_i, if_neg (by omega), sI_i, if_pos ⟨rfl, rfl⟩]; rfl
    · rw [sI_i, if_pos ⟨rfl, rfl⟩]; rfl
    · rw [sI_i, if_neg (by omega), sI_i, if_neg (by omega), sRow_ne (by omega), sRow_ne (by omega), sRow_ne (by omega), sRow_ne (by omega), d1 j b, if_neg (by omega)]
theorem begin_spec {μ : fMem} {V : HV} {S : SV} {s h : Nat} (hV : HW V) (hS : SW V S) (hh : h = 2 ∨ h = 37) (hz : s = 66 ∨ s = 78) (cH : CH μ h V) (cS : CS μ s V S) (cc : CC μ V) : Ok (f_X0_begin 84 h s μ) (fun _ μ' => Crs μ' V h s S (glassS V (S 6 0)) (V.2.1 3) ∧ CP μ' V h s (V.2.1 3) (-1) 0 0 0 ∧ (∀ k, ¬ k = 84 → μ'.1 k = μ.1 k) ∧ (∀ k j, ¬ k = 84 → μ'.2.2 k j = μ.2.2 k j) ∧ μ'.1 84 0 = 0 ∧ μ'.1 84 1 = 0) := by
  have h6 : V.1 3 ≤ 6 := hV.2.2.2.1
  unfold f_X0_begin
  rw [Ok_vl, Ok_vl, Ok_vl, Ok_vl, Ok_vl, Ok_vl, Ok_vl, Ok_vl]
  generalize hμ0 : sI (sI (sI (sI (sI (sI (sR (sR μ 84 8 h) 84 9 s) 84 0 0) 84 1 0) 84 2 (-1)) 84 3 0) 84 4 (-1)) 84 7 0 = μ0
  have e1 : ∀ k, ¬ k = 84 → μ0.1 k = μ.1 k := by
    intro k hk
    subst hμ0
    funext j
    simp only [sI_i, hk, false_and, if_false, sR_i]
  have e2 : ∀ k j, ¬ k = 84 → μ0.2.2 k j = μ.2.2 k j := by
    intro k j hk
    subst hμ0
    simp only [sI_r, sR_r, hk, false_and, if_false]
  have e3 : μ0.2.1 = μ.2.1 := by subst hμ0; rfl
  have f0 : μ0.1 84 0 = 0 := by subst hμ0; simp [sI_i]
  have f1 : μ0.1 84 1 = 0 := by subst hμ0; simp [sI_i]
  have f2 : μ0.1 84 2 = -1 := by subst hμ0; simp [sI_i]
  have f3 : μ0.1 84 3 = 0 := by subst hμ0; simp [sI_i]
  have f4 : μ0.1 84 4 = -1 := by subst hμ0; simp [sI_i]
  have f7 : μ0.1 84 7 = 0 := by subst hμ0; simp [sI_i]
  have r8 : μ0.2.2 84 8 = h := by subst hμ0; simp [sI_r, sR_r]
  have r9 : μ0.2.2 84 9 = s := by subst hμ0; simp [sI_r, sR_r]
  have C : Crp μ0 V h s S (V.2.1 3) (-1) 0 0 0 := by
    refine ⟨hV, hS, cH.of fun k a b => e1 k (by rcases hh with rfl | rfl <;> omega), cS.of fun k a b => e1 k (by omega), ⟨hh, hz, r8, r9, fun d hd => ⟨(hV.2.2.2.2.2.2.2.1 d hd).1, by rw [f4, if_neg (nI_nm1 (by omega))]⟩, f2, f3, f7, fun q => absurd rfl q⟩, cc.of (e1 122 (by omega)) (by rw [e3])⟩
  rw [Ok_bd]
  refine (look_spec C).mono ?_
  rintro - μ1 ⟨C1, P1, K1, m1, t1⟩
  rw [Ok_some]
  refine ⟨C1, P1, fun k hk => ?_, fun k j hk => ?_, by rw [m1, f0], by rw [t1, f1]⟩
  · rw [K1.2.1 k (fun z => hk (List.mem_singleton.mp z)), e1 k hk]
  · rw [K1.1, e2 k j hk]
theorem KE.b {μ μ' : fMem} (a : ∀ k, ¬ k = 84 → μ'.1 k = μ.1 k) (b : ∀ k j, ¬ k = 84 → μ'.2.2 k j = μ.2.2 k j) : KE μ μ' := ⟨fun k h => a k (by omega), fun k j h => b k j h⟩
theorem RC.kd {μ : fMem} {V : HV} {S : SV} {X : RX} {h : Nat} (H : RC μ V S X h) : kd h = (4, 2) := kd2 H.1
/-- the course begun on the stand -/
theorem RC.begin {μ : fMem} {V : HV} {S : SV} {X : RX} {h : Nat} (hV : HW V) (hS : SR V S) (H : RC μ V S X h) : Ok (f_X0_begin 84 h 66 μ) (fun _ μ' => Crs μ' V h 66 S (glassS V (S 6 0)) (V.2.1 3) ∧ CP μ' V h 66 (V.2.1 3) (-1) 0 0 0 ∧ KE μ μ' ∧ RC μ' V S X h) := by
  refine (begin_spec hV hS.w H.1 (Or.inl rfl) H.2.2.2.1 H.2.2.2.2.1 H.2.2.2.2.2.1).mono ?_
  rintro - μ1 ⟨a, b, c, d, e, f⟩
  exact ⟨a, b, KE.b c d, H.ke (KE.b c d) a.2.2.2.2.2⟩
/-- .. and on a copy -/
theorem try_spec {μ : fMem} {V : HV} {S : SV} {X : RX} {h : Nat} (hV : HW V) (hS : SR V S) (H : RC μ V S X h) : Ok (f_X10_tryFromNow 0 μ) (fun _ μ' => Crs μ' V h 78 S (glassS V (S 6 0)) (V.2.1 3) ∧ CP μ' V h 78 (V.2.1 3) (-1) 0 0 0 ∧ KE μ μ' ∧ μ'.1 84 0 = 0 ∧ μ'.1 84 1 = 0) := by
  have h8 : V.1 2 ≤ 8 := hV.2.2.1
  unfold f_X10_tryFromNow
  simp only [Nat.reduceAdd]
  rw [Ok_bd]
  refine (copy_spec h8 H.2.2.2.2.1 (s' := 78) (by omega)).mono ?_
  rintro - μ1 ⟨c1, K1⟩
  have E1 : KE μ μ1 := KE.kp K1 (fun k hk => by simp only [sS, List.mem_cons, List.not_mem_nil, or_false] at hk; omega)
  have H1 := H.ke E1 (H.2.2.2.2.2.1.of (K1.2.1 122 (by simp [sS])) (K1.2.2 121 (List.not_mem_nil)))
  rw [Ok_vl, H1.2.1, gd_t H1.kd, Ok_bd]
  refine (begin_spec hV hS.w H.1 (Or.inr rfl) H1.2.2.2.1 c1 H1.2.2.2.2.2.1).mono ?_
  rintro - μ2 ⟨a, b, c, d, e, f⟩
  rw [Ok_some]
  exact ⟨a, b, E1.trans (KE.b c d), e, f⟩
theorem sV_E : ∀ k ∈ sV 78, (78 ≤ k ∧ k < 123) ∨ k = 129 ∨ 134 ≤ k := by
  intro k hk
  simp only [sV, List.mem_cons, List.not_mem_nil, or_false] at hk
  omega
theorem CK.e {μ μ' : fMem} {V : HV} (K : CK μ μ' V) : KE μ μ' := KE.kp K.1 (fun k hk => by rcases List.mem_singleton.mp hk with rfl; omega)
theorem CQ.e {μ μ' : fMem} {V : HV} (K : CQ μ μ' V) : KE μ μ' := KE.kp K.1 (fun k hk => by simp only [sA, List.mem_cons, List.not_mem_nil, or_false] at hk; omega)
theorem Crs.crp {μ : fMem} {V : HV} {h s : Nat} {S : SV} {g : Int32} {ts : Nat → Int32} {ab al dr : Int32} {k : Nat} (C : Crs μ V h s S g ts) (P : CP μ V h s ts ab al dr k) : Crp μ V h s S ts ab al dr k := ⟨C.1, C.2.1, C.2.2.1, C.2.2.2.1, P, C.2.2.2.2.2⟩
