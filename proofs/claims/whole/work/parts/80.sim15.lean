/-! ways by doors -/
section Sim15
def anyB (p : Nat → Bool) : Nat → Bool
  | 0 => false
  | n + 1 => anyB p n || p n
theorem anyB_iff {p : Nat → Bool} : ∀ {n : Nat}, anyB p n = true ↔ ∃ i, i < n ∧ p i = true
  | 0 => ⟨fun h => Bool.noConfusion h, fun h => by obtain ⟨i, h, _⟩ := h; omega⟩
  | n + 1 => by
    unfold anyB
    rw [Bool.or_eq_true, anyB_iff]
    constructor
    · rintro (⟨i, h, e⟩ | e)
      · exact ⟨i, by omega, e⟩
      · exact ⟨n, by omega, e⟩
    · rintro ⟨i, h, e⟩
      by_cases q : i = n
      · subst q; exact Or.inr e
      · exact Or.inl ⟨i, by omega, e⟩
/-- what is reached by so many doors at most -/
def rch (V : HV) (o : Nat) : Nat → Nat → Bool
  | 0, r => decide (r = o)
  | d + 1, r => rch V o d r || anyB (fun q => rch V o d q && V.2.2.1 q r) 6
theorem rch_succ {V : HV} {o d r : Nat} : rch V o (d + 1) r = true ↔ rch V o d r = true ∨ ∃ q, q < 6 ∧ rch V o d q = true ∧ V.2.2.1 q r = true := by
  show (rch V o d r || anyB (fun q => rch V o d q && V.2.2.1 q r) 6) = true ↔ _
  rw [Bool.or_eq_true, anyB_iff]
  constructor
  · rintro (h | ⟨q, h, e⟩)
    · exact Or.inl h
    · rw [Bool.and_eq_true] at e; exact Or.inr ⟨q, h, e.1, e.2⟩
  · rintro (h | ⟨q, h, e, e2⟩)
    · exact Or.inl h
    · exact Or.inr ⟨q, h, by rw [Bool.and_eq_true]; exact ⟨e, e2⟩⟩
theorem nbit_or {x y : Int32} {b : Nat} (hb : b < 8) : nbit (x ||| y) b ↔ nbit x b ∧ nbit y b := by
  rw [tb_of hb, tb_of hb, tb_of hb, Int32.toBitVec_or, BitVec.getLsbD_or, Bool.or_eq_false_iff]
theorem nbit_1 : ∀ o, o < 6 → ∀ b, b < 6 → (nbit (shl 1 (nI o)) b ↔ ¬ b = o) := by decide +kernel
theorem fnd_none {p : Nat → Bool} : ∀ {n : Nat}, (∀ i, i < n → p i = false) → fnd p n = none
  | 0, _ => rfl
  | n + 1, h => by
    unfold fnd
    rw [fnd_none (fun i hi => h i (by omega)), h n (by omega)]
    rfl
theorem nextTo_spec {μ : fMem} {h : Nat} {V : HV} (H : CH μ h V) (x : Int32) : Ok (f_X2_nextTo h x μ) (fun y μ' => μ' = μ ∧ ∀ b, b < 6 → (nbit y b ↔ ∀ r, r < 6 → ¬ nbit x r → V.2.2.1 r b = false)) := by
  unfold f_X2_nextTo
  rw [Ok_bd]
  refine Ok.mono (Q := fun u (q : Int32 × Int32 × fMem) => q.2.2 = μ ∧ ∀ b, b < 6 → (nbit q.1 b ↔ ∀ r, r < 6 → ¬ nbit x r → V.2.2.1 r b = false)) (Ok_lp 6 (fun i (q : Int32 × Int32 × fMem) => q.2.1 = nI i ∧ q.2.2 = μ ∧ ∀ b, b < 6 → (nbit q.1 b ↔ ∀ r, r < i → ¬ nbit x r → V.2.2.1 r b = false)) (by omega) ⟨rfl, rfl, fun b hb => ⟨fun _ r hr => by omega, fun _ => (tb_of (by omega)).mpr (by simp)⟩⟩ ?_) ?_
  · rintro i ⟨y, z, μ1⟩ hi ⟨hz, hm, hy⟩
    dsimp only at hz hm hy ⊢
    subst hz hm
    unfold f_X2_nextTo_L4
    rcases Nat.lt_or_ge i 6 with q | q
    · rw [if_neg (show ¬ 6 ≤ nI i from nI_ge (b := 6) q (by omega))]
      by_cases c : nbit x i
      · rw [if_pos c, Ok_vl, nI_1, Ok_some]
        refine Or.inl ⟨rfl, q, rfl, rfl, fun b hb => ?_⟩
        rw [hy b hb]
        constructor
        · intro h1 r hr hn
          by_cases e : r = i
          · subst e; exact absurd c hn
          · exact h1 r (by omega) hn
        · exact fun h1 r hr hn => h1 r (by omega) hn
      · rw [if_neg c, gd_t (ixN q (by omega)), nI_clamp (by omega), Ok_vl, Ok_vl, nI_1, Ok_some]
        refine Or.inl ⟨rfl, q, rfl, rfl, fun b hb => ?_⟩
        dsimp only
        rw [nbit_or (by omega), hy b hb, H.2.2.2.2.2.2.1 i b q hb]
        constructor
        · rintro ⟨h1, h2⟩ r hr hn
          by_cases e : r = i
          · subst e; exact h2
          · exact h1 r (by omega) hn
        · exact fun h1 => ⟨fun r hr hn => h1 r (by omega) hn, h1 i (by omega) c⟩
    · have : i = 6 := by omega
      subst this
      rw [if_pos (show 6 ≤ nI 6 by decide), Ok_some]
      exact Or.inr ⟨0, rfl, rfl, hy⟩
  · rintro u ⟨y, z, μ1⟩ h
    exact Ok_some.mpr h
def wyS (V : HV) (o p : Nat) : Int32 := match fnd (fun d => rch V o d p) 6 with
  | none => -2
  | some d => nI d
theorem wayC {μ : fMem} {V : HV} {S : SV} {X : RX} {h o p : Nat} (C : RC μ V S X h) (ho : o < 6) (hp : p < 6) : Ok (lpn (fun (q : Int32 × Int32 × fMem) => f_X10_way_L33 0 (nI p) q.1 q.2.1 q.2.2) fuel (shl 1 (nI o), (0 : Int32), μ)) (fun u q => q.2.2 = μ ∧ ((u = 0 ∧ fnd (fun d => rch V o d p) 6 = none) ∨ (¬ u = 0 ∧ ∃ d, fnd (fun d => rch V o d p) 6 = some d ∧ q.2.1 = nI d))) := by
  refine Ok_lp 6 (fun i (q : Int32 × Int32 × fMem) => q.2.1 = nI i ∧ q.2.2 = μ ∧ (∀ b, b < 6 → (nbit q.1 b ↔ rch V o i b = false)) ∧ fnd (fun d => rch V o d p) i = none) (by omega) ⟨rfl, rfl, fun b hb => by dsimp only; rw [nbit_1 o ho b hb]; unfold rch; rw [decide_eq_false_iff_not], rfl⟩ ?_
  rintro i ⟨y, z, μ1⟩ hi ⟨hz, hm, hy, hn⟩
  dsimp only at hz hm hy hn ⊢
  subst hz hm
  unfold f_X10_way_L33
  rcases Nat.lt_or_ge i 6 with q | q
  · rw [if_neg (show ¬ 6 ≤ nI i from nI_ge (b := 6) q (by omega))]
    by_cases c : nbit y p
    · rw [if_pos c, Ok_vl, C.2.1, gd_t C.kd, Ok_bd]
      refine (nextTo_spec C.2.2.2.1 y).mono ?_
      rintro w μ2 ⟨rfl, hw⟩
      rw [Ok_vl, Ok_vl, nI_1, Ok_some]
      refine Or.inl ⟨rfl, q, rfl, rfl, fun b hb => ?_, ?_⟩
      · dsimp only
        rw [nbit_or (by omega), hy b hb, hw b hb]
        constructor
        · rintro ⟨h1, h2⟩
          cases e : rch V o (i + 1) b with
          | false => rfl
          | true =>
            rcases rch_succ.mp e with e | ⟨r, hr, e, e2⟩
            · rw [h1] at e; cases e
            · have := h2 r hr (fun z => by rw [(hy r hr).mp z] at e; cases e)
              rw [this] at e2; cases e2
        · intro h1
          refine ⟨?_, fun r hr hn => ?_⟩
          · cases e : rch V o i b with
            | false => rfl
            | true => rw [rch_succ.mpr (Or.inl e)] at h1; cases h1
          · cases e : V.2.2.1 r b with
            | false => rfl
            | true =>
              have : rch V o i r = true := by
                cases e3 : rch V o i r with
                | true => rfl
                | false => exact absurd ((hy r hr).mpr e3) hn
              rw [rch_succ.mpr (Or.inr ⟨r, hr, this, e⟩)] at h1; cases h1
      · unfold fnd
        rw [hn]
        simp [(hy p hp).mp c]
    · rw [if_neg c, Ok_some]
      have e : rch V o i p = true := by
        cases e3 : rch V o i p with
        | true => rfl
        | false => exact absurd ((hy p hp).mpr e3) c
      exact Or.inr ⟨1, rfl, rfl, Or.inr ⟨by decide, i, fnd_le (p := fun d => rch V o d p) (a := 0) hn e 6 q, rfl⟩⟩
  · have : i = 6 := by omega
    subst this
    rw [if_pos (show 6 ≤ nI 6 by decide), Ok_some]
    exact Or.inr ⟨0, rfl, rfl, Or.inl ⟨rfl, hn⟩⟩
def dI : Option Nat → Int32
  | none => -2
  | some d => nI d
theorem cnt_upd {p q : Nat → Bool} {r : Nat} (hp : p r = false) (hq : q r = true) (ho : ∀ i, ¬ i = r → q i = p i) : ∀ m, cnt q m = cnt p m + if r < m then 1 else 0
  | 0 => rfl
  | m + 1 => by
    unfold cnt
    rw [cnt_upd hp hq ho m]
    by_cases e : m = r
    · subst e
      rw [hp, hq, if_pos rfl, if_neg (by omega), if_neg (by decide), if_pos (by omega)]
    · rw [ho m e]
      by_cases c : r < m
      · rw [if_pos c, if_pos (show r < m + 1 by omega)]; split <;> omega
      · rw [if_neg c, if_neg (show ¬ r < m + 1 by omega)]; rfl
/-- those reached by now, in their order -/
def BF (V : HV) (o n : Nat) (D : Nat → Option Nat) (Q : Nat → Nat) : Prop :=
  (∀ i, i < n → Q i < V.1 0 ∧ ∃ d, D (Q i) = some d ∧ d ≤ i) ∧ (∀ v d, D v = some d → ∃ i, i < n ∧ Q i = v) ∧ cnt (fun r => (D r).isSome) (V.1 0) = n ∧ (∀ v d, D v = some d → rch V o d v = true ∧ ∀ d', d' < d → rch V o d' v = false) ∧ (∀ i j a b, i ≤ j → j < n → D (Q i) = some a → D (Q j) = some b → a ≤ b) ∧ D o = some 0
def BE (V : HV) (k r : Nat) (D : Nat → Option Nat) (Q : Nat → Nat) : Prop := (∀ i, i < k → ∀ v, V.2.2.1 (Q i) v = true → ∃ d, D v = some d) ∧ ∀ v, v < r → V.2.2.1 (Q k) v = true → ∃ d, D v = some d
theorem BF.n {V : HV} {o n : Nat} {D : Nat → Option Nat} {Q : Nat → Nat} (H : BF V o n D Q) : n ≤ V.1 0 := by rw [← H.2.2.1]; exact cnt_le _ _
theorem BF.comp {V : HV} {o n k dk : Nat} {D : Nat → Option Nat} {Q : Nat → Nat} (H : BF V o n D Q) (hE : ∀ i, i < k → ∀ v, V.2.2.1 (Q i) v = true → ∃ d, D v = some d) (hk : (k < n ∧ D (Q k) = some dk) ∨ k = n) : ∀ d, (k < n → d ≤ dk) → ∀ v, rch V o d v = true → ∃ x, D v = some x
  | 0, _, v, h => by
    unfold rch at h
    rw [decide_eq_true_iff] at h
    subst h
    exact ⟨0, H.2.2.2.2.2⟩
  | d + 1, hd, v, h => by
    rcases rch_succ.mp h with h | ⟨q, hq, h1, h2⟩
    · exact H.comp hE hk d (fun z => by have := hd z; omega) v h
    · obtain ⟨x, hx⟩ := H.comp hE hk d (fun z => by have := hd z; omega) q h1
      obtain ⟨i, hi, rfl⟩ := H.2.1 q x hx
      have hxd : x ≤ d := by
        rcases Nat.lt_or_ge d x with c | c
        · rw [(H.2.2.2.1 _ x hx).2 d c] at h1; cases h1
        · exact c
      have hik : i < k := by
        rcases hk with ⟨k1, k2⟩ | k2
        · rcases Nat.lt_or_ge i k with c | c
          · exact c
          · have := H.2.2.2.2.1 k i dk x c hi k2 hx
            have := hd k1
            omega
        · omega
      exact hE i hik v h2
theorem BF.push {V : HV} {o n k r dk : Nat} {D : Nat → Option Nat} {Q : Nat → Nat} (hV : HW V) (H : BF V o n D Q) (hE : BE V k r D Q) (hk : k < n) (hdk : D (Q k) = some dk) (hg : ∀ j b, j < n → D (Q j) = some b → b ≤ dk + 1) (hr : r < V.1 0) (hD : D r = none) (hd : V.2.2.1 (Q k) r = true) :
    BF V o (n + 1) (fun v => if v = r then some (dk + 1) else D v) (fun i => if i = n then r else Q i) ∧ BE V k (r + 1) (fun v => if v = r then some (dk + 1) else D v) (fun i => if i = n then r else Q i) ∧ (∀ j b, j < n + 1 → (fun v => if v = r then some (dk + 1) else D v) ((fun i => if i = n then r else Q i) j) = some b → b ≤ dk + 1) := by
  have h6 : V.1 0 ≤ 6 := hV.1
  have ne : ∀ v d, D v = some d → ¬ v = r := by rintro v d h rfl; rw [hD] at h; cases h
  have Dn : ∀ v d, D v = some d → (if v = r then some (dk + 1) else D v) = some d := fun v d h => by rw [if_neg (ne v d h)]; exact h
  have Qn : ∀ i, i < n → (if i = n then r else Q i) = Q i := fun i hi => if_neg (by omega)
  have dkk : dk ≤ k := by
    obtain ⟨d, e, h⟩ := (H.1 k hk).2
    rw [hdk] at e; cases e; exact h
  refine ⟨⟨fun i hi => ?_, fun v d hv => ?_, ?_, fun v d hv => ?_, fun i j a b hij hj ha hb => ?_, ?_⟩, ⟨fun i hi v hv => ?_, fun v hv hv2 => ?_⟩, fun j b hj hb => ?_⟩
  · dsimp only
    by_cases c : i = n
    · subst c
      rw [if_pos rfl, if_pos rfl]
      exact ⟨hr, dk + 1, rfl, by omega⟩
    · rw [if_neg c]
      obtain ⟨h1, d, h2, h3⟩ := H.1 i (by omega)
      exact ⟨h1, d, Dn _ d h2, h3⟩
  · dsimp only at hv ⊢
    by_cases c : v = r
    · exact ⟨n, by omega, by rw [if_pos rfl, c]⟩
    · rw [if_neg c] at hv
      obtain ⟨i, hi, e⟩ := H.2.1 v d hv
      exact ⟨i, by omega, by rw [Qn i hi]; exact e⟩
  · have := cnt_upd (p := fun r => (D r).isSome) (q := fun v => (if v = r then some (dk + 1) else D v).isSome) (r := r) (by rw [hD]; rfl) (by rw [if_pos rfl]; rfl) (fun i hi => by rw [if_neg hi]) (V.1 0)
    rw [this, H.2.2.1, if_pos hr]
  · dsimp only at hv
    by_cases c : v = r
    · subst c
      rw [if_pos rfl] at hv
      cases hv
      refine ⟨rch_succ.mpr (Or.inr ⟨Q k, by have := (H.1 k hk).1; omega, (H.2.2.2.1 _ dk hdk).1, hd⟩), fun d' hd' => ?_⟩
      cases e : rch V o d' v with
      | false => rfl
      | true =>
        obtain ⟨x, hx⟩ := H.comp hE.1 (Or.inl ⟨hk, hdk⟩) d' (fun _ => by omega) v e
        rw [hD] at hx; cases hx
    · rw [if_neg c] at hv
      exact H.2.2.2.1 v d hv
  · dsimp only at ha hb
    by_cases cj : j = n
    · subst cj
      rw [if_pos rfl, if_pos rfl] at hb
      cases hb
      by_cases ci : i = j
      · subst ci; rw [if_pos rfl, if_pos rfl] at ha; cases ha; omega
      · rw [if_neg ci] at ha
        obtain ⟨x, hx⟩ := (H.1 i (by omega)).2
        rw [Dn _ x hx.1] at ha
        have ea := Option.some.inj ha
        have := hg i x (by omega) hx.1
        omega
    · rw [if_neg cj] at hb
      rw [if_neg (show ¬ i = n by omega)] at ha
      obtain ⟨x, hx⟩ := (H.1 i (by omega)).2
      obtain ⟨y, hy⟩ := (H.1 j (by omega)).2
      rw [Dn _ x hx.1] at ha
      rw [Dn _ y hy.1] at hb
      have ea := Option.some.inj ha
      have eb := Option.some.inj hb
      have := H.2.2.2.2.1 i j x y hij (by omega) hx.1 hy.1
      omega
  · exact Dn o 0 H.2.2.2.2.2
  · dsimp only at hv ⊢
    rw [Qn i (by omega)] at hv
    obtain ⟨x, hx⟩ := hE.1 i hi v hv
    exact ⟨x, Dn v x hx⟩
  · dsimp only at hv2 ⊢
    rw [Qn k hk] at hv2
    by_cases c : v = r
    · exact ⟨dk + 1, by rw [if_pos c]⟩
    · obtain ⟨x, hx⟩ := hE.2 v (by omega) hv2
      exact ⟨x, Dn v x hx⟩
  · dsimp only at hb
    by_cases cj : j = n
    · rw [if_pos cj, if_pos rfl] at hb; cases hb; omega
    · rw [if_neg cj] at hb
      obtain ⟨y, hy⟩ := (H.1 j (by omega)).2
      rw [Dn _ y hy.1] at hb
      have eb := Option.some.inj hb
      have := hg j y (by omega) hy.1
      omega
def BM (ν : fMem) (n : Nat) (D : Nat → Option Nat) (Q : Nat → Nat) : Prop := (∀ r, r < 6 → ν.1 213 r = dI (D r)) ∧ ∀ i, i < n → ν.1 214 i = nI (Q i)
abbrev AW (c _ : Nat) : Prop := c = 213 ∨ c = 214
theorem dI_n {o : Option Nat} (h : ∀ d, o = some d → d < 2 ^ 31) : dI o = -2 ↔ o = none := by
  cases o with
  | none => exact ⟨fun _ => rfl, fun _ => rfl⟩
  | some d => exact ⟨fun z => absurd z (fun w => by have w : nI d = -2 := w; have := nI_pos' (h d rfl); rw [w] at this; exact absurd this (by decide)), fun z => by cases z⟩
theorem wayM_in {ν : fMem} {V : HV} {o n k dk : Nat} {D : Nat → Option Nat} {Q : Nat → Nat} (hV : HW V) (mH : MH ν V) (H : BF V o n D Q) (hE : BE V k 0 D Q) (hk : k < n) (hdk : D (Q k) = some dk) (hg : ∀ j b, j < n → D (Q j) = some b → b ≤ dk + 1) (B : BM ν n D Q) (v2 : Int32) : Ok (lpn (fun (q : Int32 × Int32 × fMem) => f_X11_way_L73 181 v2 (nI k) q.1 q.2.1 q.2.2) fuel (nI n, (0 : Int32), ν)) (fun _ q => ∃ n' D' Q', q.1 = nI n' ∧ BF V o n' D' Q' ∧ BE V k (V.1 0) D' Q' ∧ k < n' ∧ D' (Q' k) = some dk ∧ (∀ j b, j < n' → D' (Q' j) = some b → b ≤ dk + 1) ∧ BM q.2.2 n' D' Q' ∧ Kx AW BN ν q.2.2) := by
  have h6 : V.1 0 ≤ 6 := hV.1
  refine Ok_lp (V.1 0) (fun r (q : Int32 × Int32 × fMem) => q.2.1 = nI r ∧ ∃ n' D' Q', q.1 = nI n' ∧ BF V o n' D' Q' ∧ BE V k r D' Q' ∧ k < n' ∧ D' (Q' k) = some dk ∧ (∀ j b, j < n' → D' (Q' j) = some b → b ≤ dk + 1) ∧ BM q.2.2 n' D' Q' ∧ Kx AW BN ν q.2.2) (by omega) ⟨rfl, n, D, Q, rfl, H, hE, hk, hdk, hg, B, Kx.rfl'⟩ ?_
  rintro r ⟨x, z, ν1⟩ hr ⟨hz, n1, D1, Q1, hx, H1, E1, k1, d1, g1, B1, K1⟩
  dsimp only at hz hx B1 K1 ⊢
  subst hz hx
  have mH1 : MH ν1 V := mH.of hV fun c a b j _ => K1.2.1 c j (by unfold AW; omega)
  have n6 := H1.n
  have lt31 : ∀ v d, D1 v = some d → d < 2 ^ 31 := fun v d h => by
    obtain ⟨i, hi, rfl⟩ := H1.2.1 v d h
    obtain ⟨x, e, hx⟩ := (H1.1 i hi).2
    rw [h] at e; cases e; omega
  unfold f_X11_way_L73
  simp only [Nat.reduceAdd]
  rw [mH1.1 0 (by omega)]
  rcases Nat.lt_or_ge r (V.1 0) with q | q
  · have ix5 : ixo (nI r) 6 := ixN (by omega) (by omega)
    have ix4 : ixo (nI k) 6 := ixN (by omega) (by omega)
    have qk := (H1.1 k k1).1
    have ixq : ixo (nI (Q1 k)) 6 := ixN (by omega) (by omega)
    rw [if_neg (nI_ge q (by omega))]
    simp only [gd_t ix5, gd_t ix4]
    rw [nI_clamp (by omega), nI_clamp (by omega), B1.1 r (by omega), B1.2 k k1]
    have stay : (V.2.2.1 (Q1 k) r = true → ∃ d, D1 r = some d) → BE V k (r + 1) D1 Q1 := fun w => ⟨E1.1, fun v hv h2 => by
      by_cases e : v = r
      · subst e; exact w h2
      · exact E1.2 v (by omega) h2⟩
    cases hD : D1 r with
    | some d =>
      rw [if_neg (fun w => by have := (dI_n (lt31 r)).mp (by rw [hD]; exact w); rw [hD] at this; cases this), Ok_vl, nI_1, Ok_some]
      exact Or.inl ⟨rfl, q, rfl, n1, D1, Q1, rfl, H1, stay (fun _ => ⟨d, hD⟩), k1, d1, g1, B1, K1⟩
    | none =>
      rw [if_pos (show dI none = -2 from rfl), isDoor_eq mH1 hV (by omega) (by omega), bd_some]
      cases hd : V.2.2.1 (Q1 k) r with
      | false =>
        rw [if_pos (show (if false = true then (1 : Int32) else 0) = 0 by decide), Ok_vl, nI_1, Ok_some]
        exact Or.inl ⟨rfl, q, rfl, n1, D1, Q1, rfl, H1, stay (fun w => by rw [hd] at w; cases w), k1, d1, g1, B1, K1⟩
      | true =>
        obtain ⟨H2, E2, g2⟩ := H1.push hV E1 k1 d1 g1 q hD hd
        have n6' := H2.n
        rw [if_neg (show ¬ (if true = true then (1 : Int32) else 0) = 0 by decide), B1.2 k k1, gd_t ixq, nI_clamp (by omega), B1.1 (Q1 k) (by omega), d1]
        have dI1 : dI (some dk) + 1 = nI (dk + 1) := nI_1 dk
        rw [dI1, Ok_vl, gd_t (ixN (by omega) (by omega)), nI_clamp (by omega), Ok_vl, Ok_vl, Ok_vl, nI_1, nI_1, Ok_some]
        refine Or.inl ⟨rfl, q, rfl, n1 + 1, _, _, rfl, H2, E2, by omega, ?_, g2, ⟨fun v hv => ?_, fun i hi => ?_⟩, (K1.sI (Or.inl rfl)).sI (Or.inr rfl)⟩
        · rw [if_neg (show ¬ k = n1 by omega), if_neg (fun w => by rw [w, hD] at d1; cases d1)]
          exact d1
        · dsimp only
          rw [sI_i, if_neg (by omega), sI_i]
          by_cases e : v = r
          · rw [if_pos ⟨rfl, e⟩, if_pos e]; rfl
          · rw [if_neg (fun w => e w.2), if_neg e]; exact B1.1 v hv
        · dsimp only
          rw [sI_i]
          by_cases e : i = n1
          · rw [if_pos ⟨rfl, e⟩, if_pos e]
          · rw [if_neg (fun w => e w.2), sI_i, if_neg (by omega), if_neg e]; exact B1.2 i (by omega)
  · rw [if_pos (nI_le q (by omega)), Ok_some]
    have : r = V.1 0 := by omega
    subst this
    exact Or.inr ⟨0, rfl, n1, D1, Q1, rfl, H1, E1, k1, d1, g1, B1, K1⟩
theorem sim_way (a b : Int32) : Sim Rel (f_X10_way 0 a b) (f_X11_way 181 a b) := by
  refine simQ fun μ ν V S X h hV hS hX C M => ?_
  have cc := C.2.2.2.2.2.1
  have h6 : V.1 0 ≤ 6 := hV.1
  by_cases ca : hs (V.1 0) a
  rotate_left
  · refine ⟨-1, ?_, ?_⟩
    · unfold f_X10_way
      refine qc_h C ?_
      rw [has0 C.2.2.2.1, bd_some, if_neg ca, if_pos rfl]; exact qc_some cc
    · unfold f_X11_way
      refine qm_th hV hX M fun ν1 K M => ?_
      rw [isRoom_eq M.1, bd_some, if_neg ca, if_pos rfl]; exact qm_some K
  by_cases cb : hs (V.1 0) b
  rotate_left
  · refine ⟨-1, ?_, ?_⟩
    · unfold f_X10_way
      refine qc_h C ?_
      rw [has0 C.2.2.2.1, bd_some, if_pos ca, if_neg (by decide)]
      refine qc_h C ?_
      rw [has0 C.2.2.2.1, bd_some, if_neg cb, if_pos rfl]; exact qc_some cc
    · unfold f_X11_way
      refine qm_th hV hX M fun ν1 K M => ?_
      rw [isRoom_eq M.1, bd_some, if_pos ca, if_neg (by decide), isRoom_eq M.1, bd_some, if_neg cb, if_pos rfl]; exact qm_some K
  obtain ⟨o, ho, rfl⟩ := hs_ex ca (by omega)
  obtain ⟨p, hp, rfl⟩ := hs_ex cb (by omega)
  refine ⟨wyS V o p, ?_, ?_⟩
  · unfold f_X10_way
    refine qc_h C ?_
    rw [has0 C.2.2.2.1, bd_some, if_pos ca, if_neg (by decide)]
    refine qc_h C ?_
    rw [has0 C.2.2.2.1, bd_some, if_pos cb, if_neg (by decide)]
    refine Ok_vl.mpr (Ok_bd.mpr ((wayC C (show o < 6 by omega) (show p < 6 by omega)).mono ?_))
    rintro u ⟨y, z, μ1⟩ ⟨hm, hq⟩
    dsimp only at hm hq ⊢
    subst hm
    unfold wyS
    rcases hq with ⟨rfl, e⟩ | ⟨hu, d, e, rfl⟩
    · rw [if_pos rfl, e]; exact qc_some cc
    · rw [if_neg hu, e]; exact qc_some cc
  · unfold f_X11_way
    refine qm_th hV hX M fun ν1 K M => ?_
    simp only [Nat.reduceAdd]
    rw [isRoom_eq M.1, bd_some, if_pos ca, if_neg (by decide), isRoom_eq M.1, bd_some, if_pos cb, if_neg (by decide)]
    refine Ok_bd.mpr ?_
    refine Ok.mono (Q := fun u (q : Int32 × fMem) => Kx AW BN ν1 q.2 ∧ ∀ j, j < 6 → q.2.1 213 j = -2) (Ok_lp 6 (fun i (q : Int32 × fMem) => q.1 = nI i ∧ Kx AW BN ν1 q.2 ∧ ∀ j, j < i → q.2.1 213 j = -2) (by omega) ⟨rfl, Kx.rfl', fun j hj => by omega⟩ ?_) ?_
    · rintro i ⟨z, ν2⟩ hi ⟨hz, K2, e2⟩
      dsimp only at hz K2 e2 ⊢
      subst hz
      unfold f_X11_way_L25
      simp only [Nat.reduceAdd]
      rcases Nat.lt_or_ge i 6 with q | q
      · rw [if_neg (show ¬ 6 ≤ nI i from nI_ge (b := 6) q (by omega)), gd_t (ixN q (by omega)), nI_clamp (by omega), Ok_vl, Ok_vl, nI_1, Ok_some]
        refine Or.inl ⟨rfl, q, rfl, K2.sI (Or.inl rfl), fun j hj => ?_⟩
        rw [sI_i]
        by_cases e : j = i
        · rw [if_pos ⟨rfl, e⟩]
        · rw [if_neg (fun w => e w.2)]; exact e2 j (by omega)
      · have : i = 6 := by omega
        subst this
        rw [if_pos (show 6 ≤ nI 6 by decide), Ok_some]
        exact Or.inr ⟨0, rfl, K2, e2⟩
    · rintro u ⟨z, ν2⟩ ⟨K2, e2⟩
      dsimp only at K2 e2 ⊢
      rw [gd_t (ixN (by omega) (by omega)), nI_clamp (by omega), Ok_vl, Ok_vl]
      have K3 : Kx AW BN ν1 (sI (sI ν2 213 o 0) 214 0 (nI o)) := (K2.sI (Or.inl rfl)).sI (Or.inr rfl)
      have B3 : BM (sI (sI ν2 213 o 0) 214 0 (nI o)) 1 (fun v => if v = o then some 0 else none) (fun _ => o) := by
        refine ⟨fun r hr => ?_, fun i hi => ?_⟩
        · dsimp only
          rw [sI_i, if_neg (by omega), sI_i]
          by_cases e : r = o
          · rw [if_pos ⟨rfl, e⟩, if_pos e]; rfl
          · rw [if_neg (fun w => e w.2), if_neg e]; exact e2 r hr
        · have : i = 0 := by omega
          subst this
          rw [sI_i, if_pos ⟨rfl, rfl⟩]
      have H3 : BF V o 1 (fun v => if v = o then some 0 else none) (fun _ => o) := by
        refine ⟨fun i hi => ⟨ho, 0, if_pos rfl, by omega⟩, fun v d hv => ⟨0, by omega, ?_⟩, ?_, fun v d hv => ?_, fun i j a b _ _ ha hb => ?_, if_pos rfl⟩
        · dsimp only at hv
          by_cases e : v = o
          · exact e.symm
          · rw [if_neg e] at hv; cases hv
        · have := cnt_upd (p := fun _ => false) (q := fun v => (if v = o then some 0 else (none : Option Nat)).isSome) (r := o) rfl (by rw [if_pos rfl]; rfl) (fun i hi => by rw [if_neg hi]; rfl) (V.1 0)
          rw [this, if_pos ho]
          have z : ∀ m, cnt (fun _ => false) m = 0 := by
            intro m
            induction m with
            | zero => rfl
            | succ m ih => unfold cnt; rw [ih]; rfl
          rw [z]
        · dsimp only at hv
          by_cases e : v = o
          · rw [if_pos e] at hv; cases hv
            exact ⟨by unfold rch; exact decide_eq_true e, fun d' h => by omega⟩
          · rw [if_neg e] at hv; cases hv
        · dsimp only at ha hb
          rw [if_pos rfl] at ha hb
          cases ha; cases hb; omega
      generalize sI (sI ν2 213 o 0) 214 0 (nI o) = ν3 at K3 B3
      rw [Ok_bd]
      refine Ok.mono (Q := fun u (q : Int32 × Int32 × fMem) => ∃ n D Q, BF V o n D Q ∧ BM q.2.2 n D Q ∧ (∀ i, i < n → ∀ v, V.2.2.1 (Q i) v = true → ∃ d, D v = some d) ∧ Kx AW BN ν1 q.2.2) (Ok_lp 6 (fun k (q : Int32 × Int32 × fMem) => q.2.1 = nI k ∧ ∃ n D Q, q.1 = nI n ∧ k ≤ n ∧ BF V o n D Q ∧ BM q.2.2 n D Q ∧ (∀ i, i < k → ∀ v, V.2.2.1 (Q i) v = true → ∃ d, D v = some d) ∧ (∀ dk, k < n → D (Q k) = some dk → ∀ j b, j < n → D (Q j) = some b → b ≤ dk + 1) ∧ Kx AW BN ν1 q.2.2) (by omega) ⟨rfl, 1, _, _, rfl, by omega, H3, B3, fun i hi => by omega, fun dk _ h1 j b _ h2 => by rw [if_pos rfl] at h1 h2; cases h1; cases h2; omega, K3⟩ ?_) ?_
      · rintro k ⟨x, z, ν4⟩ hk ⟨hz, n, D, Q, hx, hkn, H4, B4, E4, g4, K4⟩
        dsimp only at hz hx B4 K4 ⊢
        subst hz hx
        have n6 := H4.n
        unfold f_X11_way_L64
        rcases Nat.lt_or_ge k n with q | q
        · obtain ⟨dk, edk, hdk⟩ := (H4.1 k q).2
          rw [if_neg (nI_ge q (by omega)), Ok_bd]
          have mH4 : MH ν4 V := M.1.of hV fun c a b j _ => K4.2.1 c j (by unfold AW; omega)
          refine (wayM_in hV mH4 H4 ⟨E4, fun v hv => by omega⟩ q edk (g4 dk q edk) B4 (nI p)).mono ?_
          rintro u ⟨x5, z5, ν5⟩ ⟨n5, D5, Q5, hx5, H5, E5, k5, d5, g5, B5, K5⟩
          dsimp only at hx5 B5 K5 ⊢
          subst hx5
          rw [Ok_vl, nI_1, Ok_some]
          refine Or.inl ⟨rfl, by have := H5.n; omega, rfl, n5, D5, Q5, rfl, by omega, H5, B5, fun i hi v hv => ?_, fun d6 h1 h2 j b h3 h4 => ?_, K4.trans K5⟩
          · by_cases e : i = k
            · subst e
              exact E5.2 v (hV.2.2.2.2.2.2.2.2.2.2.2.2 _ _ hv).2 hv
            · exact E5.1 i (by omega) v hv
          · have h5 := H5.2.2.2.2.1 k (k + 1) dk d6 (by omega) h1 d5 h2
            have := g5 j b h3 h4
            omega
        · rw [if_pos (nI_le q (by omega)), Ok_some]
          have : k = n := by omega
          subst this
          exact Or.inr ⟨0, rfl, k, D, Q, H4, B4, E4, K4⟩
      · rintro u ⟨x, z, ν4⟩ ⟨n, D, Q, H4, B4, E4, K4⟩
        dsimp only at B4 K4 ⊢
        rw [gd_t (ixN (by omega) (by omega)), nI_clamp (by omega), B4.1 p (by omega)]
        refine Ok_some.mpr ⟨?_, K.trans (K4.wide (fun c j z => Or.inr (Or.inr (Or.inl (by unfold AW at z; omega)))) (fun _ _ z => absurd z id))⟩
        unfold wyS
        cases hD : D p with
        | some d =>
          obtain ⟨i, hi, e⟩ := H4.2.1 p d hD
          have d5 : d < 6 := by
            obtain ⟨y, e2, hy⟩ := (H4.1 i hi).2
            rw [e, hD] at e2
            cases e2
            have := H4.n
            omega
          have mn := H4.2.2.2.1 p d hD
          rw [fnd_le (p := fun d => rch V o d p) (a := 0) (fnd_none fun i hi => mn.2 i hi) mn.1 6 d5]
          rfl
        | none =>
          rw [fnd_none (p := fun d => rch V o d p) fun i hi => ?_]
          · rfl
          · cases e : rch V o i p with
            | false => rfl
            | true =>
              obtain ⟨x, hx⟩ := H4.comp (k := n) (dk := 0) E4 (Or.inr rfl) i (fun z => by omega) p e
              rw [hD] at hx; cases hx
end Sim15
