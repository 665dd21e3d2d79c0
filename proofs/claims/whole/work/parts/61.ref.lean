/-! the reference's house and stands -/
def MH (ν : fMem) (V : HV) : Prop := (∀ w, w < 5 → ν.1 183 w = nI (V.1 w)) ∧ ν.1 183 6 = nI (V.1 6) ∧ (∀ t, t < V.1 2 → ν.1 188 t = V.2.1 0 t ∧ ν.1 189 t = V.2.1 1 t ∧ ν.1 190 t = V.2.1 2 t) ∧ (∀ d, d < V.1 3 → ν.1 192 d = V.2.1 3 d ∧ ν.1 193 d = V.2.1 4 d ∧ ν.1 194 d = V.2.1 5 d ∧ ν.1 195 d = V.2.1 6 d) ∧ (∀ g, g < V.1 4 → ν.1 196 g = V.2.1 7 g) ∧ (∀ j, j < V.1 0 → ν.1 184 j = V.2.1 10 j) ∧ (∀ j, j < V.1 2 → ν.1 187 j = V.2.1 12 j) ∧ (∀ j, j < V.1 3 → ν.1 191 j = V.2.1 13 j) ∧ (∀ a b, a < 6 → b < 6 → (V.2.2.1 a b = true ↔ ∃ k, k < V.1 1 ∧ ((ν.1 185 k = nI a ∧ ν.1 186 k = nI b) ∨ (ν.1 185 k = nI b ∧ ν.1 186 k = nI a)))) ∧ ML ν 0 (V.2.2.2 0) ∧ ML ν 1 (V.2.2.2 1) ∧ ML ν 2 (V.2.2.2 2)
/-- the x-th stand, as it is tried -/
def MSt (ν : fMem) (x : Nat) (V : HV) (S : SV) (tw ti : Int32) : Prop := (∀ j, j < V.1 2 → (if tw = 5 ∧ nI j = ti then -1 else ν.1 206 (8 * x + j)) = S 0 j) ∧ (∀ j, j < 8 → ν.1 207 (8 * x + j) = S 1 j) ∧ (∀ j, j < 8 → ν.1 208 (8 * x + j) = S 2 j) ∧ (∀ j, j < 6 → ν.1 209 (6 * x + j) = S 3 j) ∧ (∀ j, j < 6 → ν.1 210 (6 * x + j) = S 4 j) ∧ (if tw = 1 then 0 else ν.1 205 x) = S 5 0 ∧ ν.1 203 x = S 6 0
def MO (ν : fMem) (V : HV) (S : SV) (g : Int32) (ts : Nat → Int32) (tw ti : Int32) : Prop := ν.1 181 47 = tw ∧ ν.1 181 48 = ti ∧ (∀ d, d < V.1 3 → Upto 9 (ts d) ∧ ts d = if nI d = ν.1 181 50 then ν.1 181 51 else V.2.1 3 d) ∧ g = (if ν.1 181 49 = -1 then glassS V (S 6 0) else ν.1 181 49)
def Mrs (ν : fMem) (V : HV) (x : Nat) (S : SV) (g : Int32) (ts : Nat → Int32) (tw ti : Int32) : Prop := HW V ∧ SW V S ∧ MH ν V ∧ MSt ν x V S tw ti ∧ MO ν V S g ts tw ti ∧ x < 23
abbrev KM (ν ν' : fMem) : Prop := Kx A0 B0 ν ν'
theorem ML.of {ν ν' : fMem} {k : Nat} {L : List (Int32 × Int32)} (H : ML ν k L) (e : ∀ c, 197 ≤ c → c ≤ 200 → ∀ j, j < 64 → ν'.1 c j = ν.1 c j) (hk : k < 64) : ML ν' k L := by
  obtain ⟨a, h1, h2, h3, h4⟩ := H
  refine ⟨a, by rw [e 197 (by omega) (by omega) k hk]; exact h1, by rw [e 198 (by omega) (by omega) k hk]; exact h2, h3, fun i hi => ?_⟩
  obtain ⟨kn, a1, a2, a3⟩ := h4 i hi
  exact ⟨kn, a1, by rw [e 199 (by omega) (by omega) _ (by omega)]; exact a2, by rw [e 200 (by omega) (by omega) _ (by omega)]; exact a3⟩
theorem MH.of {ν ν' : fMem} {V : HV} (hV : HW V) (H : MH ν V) (e : ∀ c, 183 ≤ c → c ≤ 200 → ∀ j, j < 64 → ν'.1 c j = ν.1 c j) : MH ν' V := by
  obtain ⟨h1, h2, h3, h4, h5, h6, h7, h8, h9, h10, h11, h12⟩ := H
  obtain ⟨v0, v1, v2, v3, v4, -⟩ := hV
  refine ⟨fun w hw => ?_, ?_, fun t ht => ?_, fun d hd => ?_, fun g hg => ?_, fun j hj => ?_, fun j hj => ?_, fun j hj => ?_, fun a b ha hb => ?_, h10.of (fun c a b => e c (by omega) (by omega)) (by omega), h11.of (fun c a b => e c (by omega) (by omega)) (by omega), h12.of (fun c a b => e c (by omega) (by omega)) (by omega)⟩
  · rw [e _ (by omega) (by omega) _ (by omega)]; exact h1 w hw
  · rw [e _ (by omega) (by omega) _ (by omega)]; exact h2
  · rw [e _ (by omega) (by omega) _ (by omega), e _ (by omega) (by omega) _ (by omega), e _ (by omega) (by omega) _ (by omega)]; exact h3 t ht
  · rw [e _ (by omega) (by omega) _ (by omega), e _ (by omega) (by omega) _ (by omega), e _ (by omega) (by omega) _ (by omega), e _ (by omega) (by omega) _ (by omega)]; exact h4 d hd
  · rw [e _ (by omega) (by omega) _ (by omega)]; exact h5 g hg
  · rw [e _ (by omega) (by omega) _ (by omega)]; exact h6 j hj
  · rw [e _ (by omega) (by omega) _ (by omega)]; exact h7 j hj
  · rw [e _ (by omega) (by omega) _ (by omega)]; exact h8 j hj
  · rw [h9 a b ha hb]
    constructor
    · rintro ⟨k, hk, q⟩
      exact ⟨k, hk, by rw [e 185 (by omega) (by omega) _ (by omega), e 186 (by omega) (by omega) _ (by omega)]; exact q⟩
    · rintro ⟨k, hk, q⟩
      exact ⟨k, hk, by rw [e 185 (by omega) (by omega) _ (by omega), e 186 (by omega) (by omega) _ (by omega)] at q; exact q⟩
theorem MSt.of {ν ν' : fMem} {V : HV} {x : Nat} {S : SV} {tw ti : Int32} (h8 : V.1 2 ≤ 8) (H : MSt ν x V S tw ti) (e1 : ∀ c, 206 ≤ c → c ≤ 208 → ∀ j, j < 8 → ν'.1 c (8 * x + j) = ν.1 c (8 * x + j)) (e2 : ∀ c, 209 ≤ c → c ≤ 210 → ∀ j, j < 6 → ν'.1 c (6 * x + j) = ν.1 c (6 * x + j)) (e3 : ν'.1 205 x = ν.1 205 x) (e4 : ν'.1 203 x = ν.1 203 x) : MSt ν' x V S tw ti := by
  obtain ⟨a1, a2, a3, a4, a5, a6, a7⟩ := H
  refine ⟨fun j hj => ?_, fun j hj => ?_, fun j hj => ?_, fun j hj => ?_, fun j hj => ?_, ?_, ?_⟩
  · rw [e1 _ (by omega) (by omega) j (by omega)]; exact a1 j hj
  · rw [e1 _ (by omega) (by omega) j (by omega)]; exact a2 j hj
  · rw [e1 _ (by omega) (by omega) j (by omega)]; exact a3 j hj
  · rw [e2 _ (by omega) (by omega) j (by omega)]; exact a4 j hj
  · rw [e2 _ (by omega) (by omega) j (by omega)]; exact a5 j hj
  · rw [e3]; exact a6
  · rw [e4]; exact a7
section Ref
variable {ν : fMem} {V : HV} {x : Nat} {S : SV} {g : Int32} {ts : Nat → Int32} {tw ti : Int32}
theorem MO.of {ν' : fMem} {S' : SV} (H : MO ν V S g ts tw ti) (e : ∀ j, 47 ≤ j → j ≤ 51 → ν'.1 181 j = ν.1 181 j) (e6 : S' 6 0 = S 6 0) : MO ν' V S' g ts tw ti := by
  unfold MO at H ⊢
  rw [e 47 (by omega) (by omega), e 48 (by omega) (by omega), e 49 (by omega) (by omega), e 50 (by omega) (by omega), e 51 (by omega) (by omega), e6]
  exact H
theorem Mrs.km {ν' : fMem} (M : Mrs ν V x S g ts tw ti) (K : KM ν ν') : Mrs ν' V x S g ts tw ti := by
  obtain ⟨h1, h2, h3, h4, h5, h6⟩ := M
  exact ⟨h1, h2, h3.of h1 (fun c a b j _ => K.2.1 c j (by omega)), h4.of h1.2.2.1 (fun c a b j _ => K.2.1 c _ (by omega)) (fun c a b j _ => K.2.1 c _ (by omega)) (K.2.1 205 x (by omega)) (K.2.1 203 x (by omega)), h5.of (fun j a b => K.2.1 181 j (by omega)) rfl, h6⟩
theorem nI_mul (a b : Nat) : nI a * nI b = nI (a * b) := by
  unfold nI
  rw [Int32.ofNat_mul]
theorem e8x (x t : Nat) : (8 : Int32) * nI x + nI t = nI (8 * x + t) := by
  rw [show (8 : Int32) = nI 8 from rfl, nI_mul, nI_add]
theorem e6x (x t : Nat) : (6 : Int32) * nI x + nI t = nI (6 * x + t) := by
  rw [show (6 : Int32) = nI 6 from rfl, nI_mul, nI_add]
theorem tasteIn_at (M : Mrs ν V x S g ts tw ti) {d : Nat} (hd : d < V.1 3) {ν1 : fMem} (e1 : ν1.1 = ν.1) : f_X11_tasteIn 181 (nI d) ν1 = some (ts d, ν1) := by
  obtain ⟨hV, hS, mH, mS, ⟨o1, o2, o3, o4⟩, hx⟩ := M
  have h6 : V.1 3 ≤ 6 := hV.2.2.2.1
  unfold f_X11_tasteIn
  simp only [Nat.reduceAdd, e1, gd_t (show ixo (nI d) 12 from ixN (by omega) (by omega)), nI_clamp (show d < 2 ^ 31 by omega), (mH.2.2.2.1 d hd).1]
  rw [(o3 d hd).2]
  by_cases q : nI d = ν.1 181 50
  · rw [if_pos q, if_pos q]
  · rw [if_neg q, if_neg q]
theorem glassAt_eq {ν1 : fMem} (mH : MH ν1 V) (hV : HW V) {m : Nat} (hm : m < 2 ^ 31) : f_X11_glassAt 181 (nI m) ν1 = some (glassS V (nI m), ν1) := by
  have h9 : V.1 4 ≤ 9 := hV.2.2.2.2.1
  unfold f_X11_glassAt glassS
  simp only [Nat.reduceAdd, mH.1 4 (by omega), nI_clamp hm]
  by_cases h0 : V.1 4 = 0
  · rw [if_pos h0, h0, if_pos (by decide)]
  · have hlt : m % V.1 4 < V.1 4 := Nat.mod_lt _ (by omega)
    rw [if_neg h0, if_neg (nI_ne0 (by omega) (by omega)), gd_t (nI_ne0 (by omega) (by omega)), irm_nI hm (by omega) (by omega), gd_t (ixN (by omega) (by omega)), nI_clamp (by omega), mH.2.2.2.2.1 _ hlt]
theorem gaugeIn_at (M : Mrs ν V x S g ts tw ti) {ν1 : fMem} (e1 : ν1.1 = ν.1) : f_X11_gaugeIn 181 (nI x) ν1 = some (g, ν1) := by
  obtain ⟨hV, hS, mH, mS, ⟨o1, o2, o3, o4⟩, hx⟩ := M
  obtain ⟨m, hm, em⟩ := hS.2.1
  have mH1 : MH ν1 V := mH.of hV (fun c _ _ j _ => by rw [e1])
  unfold f_X11_gaugeIn
  simp only [Nat.reduceAdd]
  rw [o4, e1]
  by_cases q : ν.1 181 49 = -1
  · simp only [if_pos q, gd_t (show ixo (nI x) 23 from ixN (by omega) (by omega)), nI_clamp (show x < 2 ^ 31 by omega), mS.2.2.2.2.2.2, em, glassAt_eq mH1 hV (show m < 2 ^ 31 by omega), bd_some]
  · rw [if_neg q, if_neg q]
def nmM (μ : fMem) (n : Nat → Int32) : fMem := sL (sL (sL (sL (sL (sL (sL μ 201 0 (n 0).toInt64) 201 1 (n 1).toInt64) 201 2 (n 2).toInt64) 201 3 (n 3).toInt64) 201 4 (n 4).toInt64) 201 5 (n 5).toInt64) 201 6 (n 6).toInt64
theorem nmM_at {μ : fMem} {n : Nat → Int32} : ∀ j, j < 7 → (nmM μ n).2.1 201 j = (n j).toInt64 := by
  intro j hj
  unfold nmM
  simp only [sL_l, true_and]
  match j, hj with
  | 0, _ => rfl
  | 1, _ => rfl
  | 2, _ => rfl
  | 3, _ => rfl
  | 4, _ => rfl
  | 5, _ => rfl
  | 6, _ => rfl
theorem nmM_km {μ : fMem} {n : Nat → Int32} : KM μ (nmM μ n) := by
  unfold nmM
  exact ((((((Kx.rfl'.sL (Or.inl rfl)).sL (Or.inl rfl)).sL (Or.inl rfl)).sL (Or.inl rfl)).sL (Or.inl rfl)).sL (Or.inl rfl)).sL (Or.inl rfl)
theorem in_at (M : Mrs ν V x S g ts tw ti) {t r : Nat} (ht : t < V.1 2) (hat : S 0 t = nI r) (hr : r < 6) : ν.1 206 (8 * x + t) = nI r := by
  have h := M.2.2.2.1.1 t ht
  by_cases q : tw = 5 ∧ nI t = ti
  · rw [if_pos q] at h
    exact absurd (h.trans hat).symm (nI_nm1 (by omega))
  · rw [if_neg q] at h
    exact h.trans hat
theorem callsT (M : Mrs ν V x S g ts tw ti) {d t r : Nat} (hd : d < V.1 3) (ht : t < V.1 2) (hr : r < 6) (hat : S 0 t = nI r) : f_X11_calls 181 (nI x) (nI d) (nI t) ν = some ((), nmM ν (nmT V d t (ts d) g (S 6 0) (S 3 r))) := by
  have hin := in_at M ht hat hr
  obtain ⟨hV, hS, mH, mS, ⟨o1, o2, o3, o4⟩, hx⟩ := id M
  have h6 : V.1 3 ≤ 6 := hV.2.2.2.1
  have h8 : V.1 2 ≤ 8 := hV.2.2.1
  unfold f_X11_calls f_X11_calls_j21 f_X11_calls_j43 f_X11_calls_j105
  simp only [if_neg (nI_nm1 (show t < 2 ^ 31 by omega)), gd_t (show ixo (nI t) 16 from ixN (by omega) (by omega)), gd_t (show ixo (0 : Int32) 7 by decide), gd_t (show ixo (1 : Int32) 7 by decide), gd_t (show ixo (4 : Int32) 7 by decide), nI_clamp (show t < 2 ^ 31 by omega), vl, Nat.reduceAdd, sL_i]
  rw [tasteIn_at M hd (ν1 := sL (sL _ _ _ _) _ _ _) rfl]
  simp only [bd_some, sL_i, gd_t (show ixo (nI d) 12 from ixN (by omega) (by omega)), nI_clamp (show d < 2 ^ 31 by omega), e8x, gd_t (show ixo (nI (8 * x + t)) 184 from ixN (by omega) (by omega)), nI_clamp (show 8 * x + t < 2 ^ 31 by omega), hin, e6x, gd_t (show ixo (nI (6 * x + r)) 138 from ixN (by omega) (by omega)), nI_clamp (show 6 * x + r < 2 ^ 31 by omega)]
  rw [gaugeIn_at M (ν1 := sL (sL (sL (sL (sL _ _ _ _) _ _ _) _ _ _) _ _ _) _ _ _) rfl]
  simp only [bd_some, sL_i, gd_t (show ixo (nI x) 23 from ixN (by omega) (by omega)), nI_clamp (show x < 2 ^ 31 by omega), (mH.2.2.1 t ht).2.1, (mH.2.2.1 t ht).2.2, (mH.2.2.2.1 d hd).2.1, mS.2.2.2.1 r hr, mS.2.2.2.2.2.2]
  rfl
theorem callsD (M : Mrs ν V x S g ts tw ti) {d : Nat} (hd : d < V.1 3) : f_X11_calls 181 (nI x) (nI d) (-1) ν = some ((), nmM ν (nmD V d (ts d) g (S 6 0))) := by
  obtain ⟨hV, hS, mH, mS, ⟨o1, o2, o3, o4⟩, hx⟩ := id M
  have h6 : V.1 3 ≤ 6 := hV.2.2.2.1
  unfold f_X11_calls f_X11_calls_j21 f_X11_calls_j43 f_X11_calls_j105
  simp only [if_true, gd_t (show ixo (0 : Int32) 7 by decide), gd_t (show ixo (1 : Int32) 7 by decide), gd_t (show ixo (4 : Int32) 7 by decide), vl, Nat.reduceAdd, sL_i]
  rw [tasteIn_at M hd (ν1 := sL (sL _ _ _ _) _ _ _) rfl]
  simp only [bd_some, sL_i, gd_t (show ixo (nI d) 12 from ixN (by omega) (by omega)), nI_clamp (show d < 2 ^ 31 by omega)]
  rw [gaugeIn_at M (ν1 := sL (sL (sL (sL (sL _ _ _ _) _ _ _) _ _ _) _ _ _) _ _ _) rfl]
  simp only [bd_some, sL_i, gd_t (show ixo (nI x) 23 from ixN (by omega) (by omega)), nI_clamp (show x < 2 ^ 31 by omega), (mH.2.2.2.1 d hd).2.1, mS.2.2.2.2.2.2]
  rfl
theorem mlaw (M : Mrs ν V x S g ts tw ti) {k : Nat} (hk : k < 3) : ML ν k (V.2.2.2 k) := by
  match k, hk with
  | 0, _ => exact M.2.2.1.2.2.2.2.2.2.2.2.2.1
  | 1, _ => exact M.2.2.1.2.2.2.2.2.2.2.2.2.2.1
  | 2, _ => exact M.2.2.1.2.2.2.2.2.2.2.2.2.2.2
/-- a law of the reference's, the names told -/
theorem goes_at (M : Mrs ν V x S g ts tw ti) {k : Nat} (hk : k < 3) {nm : Nat → Int32} (hn : ∀ j, j < 7 → ν.2.1 201 j = (nm j).toInt64) (hne : ¬ V.2.2.2 k = []) :
    Ok (f_X11_goes 181 (nI k) ν) (fun r ν' => KM ν ν' ∧ ((∃ v, ev (V.2.2.2 k) nm = some v ∧ r = 1 ∧ ν'.2.1 202 0 = v) ∨ (ev (V.2.2.2 k) nm = none ∧ r = 0))) :=
  (goes_spec (mlaw M hk) (M.1.2.2.2.2.2.2.2.2.2.1 k hk) hne hk hn).mono fun r ν' q => ⟨q.1.wide (fun _ _ z => z) (fun _ _ z => Or.inr z), q.2⟩
theorem ev_nil {nm : Nat → Int32} : ev [] nm = none := rfl
theorem mwithin (M : Mrs ν V x S g ts tw ti) {k : Nat} (hk : k < 3) {nm : Nat → Int32} (hn : ∀ j, j < 7 → ν.2.1 201 j = (nm j).toInt64) (most pl : Int32) : Ok (f_X11_within 181 (nI k) most pl ν) (fun y ν' => y = (match ev (V.2.2.2 k) nm with | none => pl | some v => clp most v) ∧ KM ν ν') := by
  unfold f_X11_within
  rw [hasLaw_spec (mlaw M hk) hk, bd_some]
  by_cases hne : V.2.2.2 k = []
  · rw [if_pos hne, if_pos rfl, Ok_some, hne]
    exact ⟨rfl, Kx.rfl'⟩
  · rw [if_neg hne, if_neg (by decide), Ok_bd]
    refine (goes_at M hk hn hne).mono ?_
    rintro r ν1 ⟨K, q⟩
    rcases q with ⟨v, e, rfl, hv⟩ | ⟨e, rfl⟩
    · rw [if_neg (by decide), Ok_some, e]
      simp only [Nat.reduceAdd, hv]
      exact ⟨rfl, K⟩
    · rw [if_pos rfl, Ok_some, e]
      exact ⟨rfl, K⟩
theorem likingOf_spec (M : Mrs ν V x S g ts tw ti) {d t r : Nat} (hd : d < V.1 3) (ht : t < V.1 2) (hr : r < 6) (hat : S 0 t = nI r) : Ok (f_X11_likingOf 181 (nI x) (nI d) (nI t) ν) (fun y ν' => y = lkS V g ts S d t r ∧ KM ν ν') := by
  have h6 : V.1 3 ≤ 6 := M.1.2.2.2.1
  have h8 : V.1 2 ≤ 8 := M.1.2.2.1
  unfold f_X11_likingOf
  rw [callsT M hd ht hr hat, bd_some]
  have M1 := M.km (nmM_km (n := nmT V d t (ts d) g (S 6 0) (S 3 r)))
  have hn := nmM_at (μ := ν) (n := nmT V d t (ts d) g (S 6 0) (S 3 r))
  have K0 := nmM_km (μ := ν) (n := nmT V d t (ts d) g (S 6 0) (S 3 r))
  generalize nmM ν (nmT V d t (ts d) g (S 6 0) (S 3 r)) = ν1 at M1 hn K0 ⊢
  rw [gd_t (show ixo (nI t) 16 from ixN (by omega) (by omega)), tasteIn_at M1 hd rfl, bd_some]
  simp only [Nat.reduceAdd, gd_t (show ixo (nI t) 16 from ixN (by omega) (by omega)), gd_t (show ixo (nI d) 12 from ixN (by omega) (by omega)), nI_clamp (show t < 2 ^ 31 by omega), nI_clamp (show d < 2 ^ 31 by omega), (M1.2.2.1.2.2.1 t ht).2.1, (M1.2.2.1.2.2.1 t ht).2.2, (M1.2.2.1.2.2.2.1 d hd).2.1]
  have fin : ∀ pl : Int32, pl = pln V d t (ts d) → Ok (bd (f_X11_within 181 0 99 pl ν1) fun r13 μ12 => some (r13, μ12)) (fun y ν' => y = lkS V g ts S d t r ∧ KM ν ν') := by
    rintro pl rfl
    rw [Ok_bd]
    refine (mwithin M1 (k := 0) (by omega) hn 99 (pln V d t (ts d))).mono ?_
    rintro y ν2 ⟨rfl, K⟩
    rw [Ok_some]
    exact ⟨rfl, K0.trans K⟩
  unfold f_X11_likingOf_j48
  by_cases w : V.2.1 1 t = V.2.1 4 d
  · rw [if_pos w, Ok_vl]; exact fin _ (by unfold pln; rw [if_pos w])
  · rw [if_neg w, Ok_vl]; exact fin _ (by unfold pln; rw [if_neg w])
theorem isHung_eq (M : Mrs ν V x S g ts tw ti) {t : Nat} (ht : t < V.1 2) : f_X11_isHung 181 (nI t) ν = some ((if tw = 5 ∧ nI t = ti then 0 else 1), ν) := by
  obtain ⟨o1, o2, -⟩ := M.2.2.2.2.1
  unfold f_X11_isHung
  rw [o1, o2]
  by_cases a : tw = 5
  · by_cases b : nI t = ti
    · rw [if_pos a, if_pos b, if_pos ⟨a, b⟩, gd_t (Or.inl rfl)]
    · rw [if_pos a, if_neg b, if_neg (fun q => b q.2), gd_t (Or.inr rfl)]
  · rw [if_neg a, if_neg (fun q => a q.1), gd_t (Or.inr rfl)]
end Ref
