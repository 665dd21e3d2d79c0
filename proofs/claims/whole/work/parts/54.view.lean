/-! what a house and a stand are, apart from both memories -/
abbrev HV : Type := (Nat → Nat) × (Nat → Nat → Int32) × (Nat → Nat → Bool) × (Nat → List (Int32 × Int32))
abbrev SV : Type := Nat → Nat → Int32
abbrev nbit (x : Int32) (i : Nat) : Prop := x &&& shl 1 (nI i) = 0
def Upto (n : Nat) (x : Int32) : Prop := ∃ j, j ≤ n ∧ x = nI j
/-- a house that could have been told -/
def HW (V : HV) : Prop := V.1 0 ≤ 6 ∧ V.1 1 ≤ 9 ∧ V.1 2 ≤ 8 ∧ V.1 3 ≤ 6 ∧ V.1 4 ≤ 9 ∧ V.1 6 ≤ 64 ∧ (∀ t, t < V.1 2 → (∃ r, r < V.1 0 ∧ V.2.1 0 t = nI r) ∧ Upto 5 (V.2.1 1 t) ∧ Upto 9 (V.2.1 2 t)) ∧ (∀ d, d < V.1 3 → Upto 9 (V.2.1 3 d) ∧ Upto 5 (V.2.1 4 d) ∧ Upto 1 (V.2.1 5 d) ∧ Upto 100 (V.2.1 6 d)) ∧ (∀ g, g < V.1 4 → Upto 99 (V.2.1 7 g)) ∧ (∀ k, k < 3 → WL (V.2.2.2 k)) ∧ (∀ i, i < 7 → nbit (V.2.1 9 0) i → ∀ k ∈ V.2.2.2 0, ¬ k.1 = nI (i + 13)) ∧ (∀ a b, V.2.2.1 a b = V.2.2.1 b a) ∧ ∀ a b, V.2.2.1 a b = true → a < V.1 0 ∧ b < V.1 0
/-- the house at h -/
def CH (μ : fMem) (h : Nat) (V : HV) : Prop := (∀ w, w < 5 → μ.1 (h + 1) w = nI (V.1 w)) ∧ μ.1 h 2 = nI (V.1 6) ∧ (∀ t, t < V.1 2 → μ.1 (h + 8) t = V.2.1 0 t ∧ μ.1 (h + 9) t = V.2.1 1 t ∧ μ.1 (h + 10) t = V.2.1 2 t) ∧ (∀ d, d < V.1 3 → μ.1 (h + 11) d = V.2.1 3 d ∧ μ.1 (h + 12) d = V.2.1 4 d ∧ μ.1 (h + 13) d = V.2.1 5 d ∧ μ.1 (h + 14) d = V.2.1 6 d) ∧ (∀ g, g < V.1 4 → μ.1 (h + 15) g = V.2.1 7 g) ∧ (∀ w, w < 4 → ∀ j, j < V.1 w → j < 8 → μ.1 (h + 3 + w) j = V.2.1 (10 + w) j) ∧ (∀ a b, a < 6 → b < 6 → (nbit (μ.1 (h + 7) a) b ↔ V.2.2.1 a b = false)) ∧ CL μ (h + 16) (V.2.2.2 0) ∧ CL μ (h + 20) (V.2.2.2 1) ∧ CL μ (h + 24) (V.2.2.2 2) ∧ μ.1 (h + 16) 2 = V.2.1 9 0
/-- a stand whose things may be hung, at s -/
def CS (μ : fMem) (s : Nat) (V : HV) (S : SV) : Prop := (∀ j, j < V.1 2 → μ.1 (s + 1) j = S 0 j) ∧ (∀ j, j < 8 → μ.1 (s + 2) j = S 1 j) ∧ (∀ j, j < 8 → μ.1 (s + 3) j = S 2 j) ∧ (∀ j, j < 6 → μ.1 (s + 4) j = S 3 j) ∧ (∀ j, j < 6 → μ.1 (s + 5) j = S 4 j) ∧ μ.1 s 5 = S 5 0 ∧ μ.1 s 6 = S 6 0 ∧ ∀ j, V.1 2 ≤ j → j < 8 → μ.1 (s + 1) j = -1
/-- things are in rooms or nowhere, few Mondays -/
def SW (V : HV) (S : SV) : Prop := (∀ t, t < V.1 2 → S 0 t = -1 ∨ ∃ r, r < V.1 0 ∧ S 0 t = nI r) ∧ Upto 16000 (S 6 0) ∧ (∀ j, V.1 2 ≤ j → j < 8 → S 1 j = 0 ∧ S 2 j = 0) ∧ ∀ j, V.1 3 ≤ j → j < 6 → S 4 j = 0
def nmv (a k ta f wm g mo : Int32) (j : Nat) : Int32 := if j = 0 then a else if j = 1 then k else if j = 2 then ta else if j = 3 then f else if j = 4 then wm else if j = 5 then g else mo
def clp (most : Int32) (v : Int64) : Int32 := Int64.toInt32 (lmx 0 (lmn most.toInt64 v))
def pln (V : HV) (d t : Nat) (ta : Int32) : Int32 := (50 - 5 * iab (V.2.1 2 t - ta)) + (if V.2.1 1 t = V.2.1 4 d then 20 else 0)
def nmT (V : HV) (d t : Nat) (ta g mo wm : Int32) : Nat → Int32 := nmv (V.2.1 2 t) (V.2.1 1 t) ta (V.2.1 4 d) wm g mo
def nmD (V : HV) (d : Nat) (ta g mo : Int32) : Nat → Int32 := nmv 0 0 ta (V.2.1 4 d) 0 g mo
def lkv (V : HV) (d t : Nat) (ta g mo wm : Int32) : Int32 := match ev (V.2.2.2 0) (nmT V d t ta g mo wm) with
  | none => pln V d t ta
  | some v => clp 99 v
def brv (V : HV) (d t : Nat) (ta g mo wm : Int32) : Int32 := match ev (V.2.2.2 1) (nmT V d t ta g mo wm) with
  | none => 30
  | some v => clp 100 v
def cmv (V : HV) (d : Nat) (ta g mo : Int32) : Bool := match ev (V.2.2.2 2) (nmD V d ta g mo) with
  | none => decide (V.2.1 6 d ≤ g)
  | some v => decide (¬ v = 0)
/-- all by which a liking could differ, as one number -/
def enc (u ta g mo wm : Int32) : Int64 := ((if nbit u 5 then 0 else g.toInt64 * 16) + (if nbit u 6 then 0 else mo.toInt64 * 2048) + ta.toInt64) + (if nbit u 4 then 0 else wm.toInt64 * 33554432)
def rng (ta g mo : Int32) : Prop := Upto 15 ta ∧ Upto 127 g ∧ Upto 16383 mo
def CC (μ : fMem) (V : HV) : Prop := ∀ d t, d < V.1 3 → t < V.1 2 → μ.2.1 121 (8 * d + t) = -1 ∨ ∃ ta g mo wm, rng ta g mo ∧ μ.2.1 121 (8 * d + t) = enc (V.2.1 9 0) ta g mo wm ∧ μ.1 122 (8 * d + t) = lkv V d t ta g mo wm
def CO (μ : fMem) (V : HV) (h s : Nat) (S : SV) (g : Int32) (ts : Nat → Int32) : Prop := (h = 2 ∨ h = 37) ∧ (s = 66 ∨ s = 78) ∧ μ.2.2 84 8 = h ∧ μ.2.2 84 9 = s ∧ μ.1 84 10 = g ∧ Upto 99 g ∧ (∀ d, d < V.1 3 → Upto 9 (ts d) ∧ ts d = if nI d = μ.1 84 4 then μ.1 84 5 else V.2.1 3 d) ∧ μ.2.1 84 15 = (if nbit (V.2.1 9 0) 5 then 0 else g.toInt64 * 16) + (if nbit (V.2.1 9 0) 6 then 0 else (S 6 0).toInt64 * 2048) ∧ μ.1 84 16 = if nbit (V.2.1 9 0) 4 then 0 else 1
abbrev sA : List Nat := [120, 122]
abbrev sB : List Nat := [119, 121, 21, 25, 29, 56, 60, 64]
def Crs (μ : fMem) (V : HV) (h s : Nat) (S : SV) (g : Int32) (ts : Nat → Int32) : Prop := HW V ∧ SW V S ∧ CH μ h V ∧ CS μ s V S ∧ CO μ V h s S g ts ∧ CC μ V
theorem CL.of {μ μ' : fMem} {c : Nat} {L : List (Int32 × Int32)} (H : CL μ c L) (e : ∀ k, c ≤ k → k ≤ c + 2 → μ'.1 k = μ.1 k) : CL μ' c L := by
  refine ⟨by rw [e c (by omega) (by omega)]; exact H.1, fun i hi => ?_⟩
  rw [e (c + 1) (by omega) (by omega), e (c + 2) (by omega) (by omega)]
  exact H.2 i hi
theorem CH.of {μ μ' : fMem} {h : Nat} {V : HV} (H : CH μ h V) (e : ∀ k, h ≤ k → k ≤ h + 26 → μ'.1 k = μ.1 k) : CH μ' h V := by
  obtain ⟨h1, h2, h3, h4, h5, h6, h7, h8, h9, h10, h11⟩ := H
  refine ⟨fun w hw => ?_, ?_, fun t ht => ?_, fun d hd => ?_, fun g hg => ?_, fun w hw j hj hj2 => ?_, fun a b ha hb => ?_, h8.of fun k a b => e k (by omega) (by omega), h9.of fun k a b => e k (by omega) (by omega), h10.of fun k a b => e k (by omega) (by omega), ?_⟩
  · rw [e _ (by omega) (by omega)]; exact h1 w hw
  · rw [e _ (by omega) (by omega)]; exact h2
  · rw [e _ (by omega) (by omega), e _ (by omega) (by omega), e _ (by omega) (by omega)]; exact h3 t ht
  · rw [e _ (by omega) (by omega), e _ (by omega) (by omega), e _ (by omega) (by omega), e _ (by omega) (by omega)]; exact h4 d hd
  · rw [e _ (by omega) (by omega)]; exact h5 g hg
  · rw [e _ (by omega) (by omega)]; exact h6 w hw j hj hj2
  · rw [e _ (by omega) (by omega)]; exact h7 a b ha hb
  · rw [e _ (by omega) (by omega)]; exact h11
theorem CS.of {μ μ' : fMem} {s : Nat} {V : HV} {S : SV} (H : CS μ s V S) (e : ∀ k, s ≤ k → k ≤ s + 5 → μ'.1 k = μ.1 k) : CS μ' s V S := by
  obtain ⟨h1, h2, h3, h4, h5, h6, h7, h8⟩ := H
  refine ⟨fun j hj => ?_, fun j hj => ?_, fun j hj => ?_, fun j hj => ?_, fun j hj => ?_, ?_, ?_, fun j a b => ?_⟩
  · rw [e _ (by omega) (by omega)]; exact h1 j hj
  · rw [e _ (by omega) (by omega)]; exact h2 j hj
  · rw [e _ (by omega) (by omega)]; exact h3 j hj
  · rw [e _ (by omega) (by omega)]; exact h4 j hj
  · rw [e _ (by omega) (by omega)]; exact h5 j hj
  · rw [e _ (by omega) (by omega)]; exact h6
  · rw [e _ (by omega) (by omega)]; exact h7
  · rw [e _ (by omega) (by omega)]; exact h8 j a b
theorem CO.of {μ μ' : fMem} {V : HV} {h s : Nat} {S : SV} {g : Int32} {ts : Nat → Int32} (H : CO μ V h s S g ts) (e1 : μ'.1 84 = μ.1 84) (e2 : μ'.2.1 84 = μ.2.1 84) (e3 : μ'.2.2 = μ.2.2) : CO μ' V h s S g ts := by
  unfold CO at H ⊢
  rw [e1, e2, e3]
  exact H
theorem sAn {k : Nat} (h : k < 120) : k ∉ sA := by simp [sA]; omega
theorem Crs.kp {μ μ' : fMem} {V : HV} {h s : Nat} {S : SV} {g : Int32} {ts : Nat → Int32} (H : Crs μ V h s S g ts) (K : Kp sA sB μ μ') (C : CC μ' V) : Crs μ' V h s S g ts := by
  obtain ⟨h1, h2, h3, h4, h5, h6⟩ := H
  refine ⟨h1, h2, h3.of fun k a b => K.2.1 k (sAn ?_), h4.of fun k a b => K.2.1 k (sAn ?_), h5.of (K.2.1 84 (by decide)) (K.2.2 84 (by decide)) K.1, C⟩
  · rcases h5.1 with rfl | rfl <;> omega
  · rcases h5.2.1 with rfl | rfl <;> omega
theorem CC.of {μ μ' : fMem} {V : HV} (H : CC μ V) (e1 : μ'.1 122 = μ.1 122) (e2 : μ'.2.1 121 = μ.2.1 121) : CC μ' V := by
  unfold CC at H ⊢
  rw [e1, e2]
  exact H
theorem kd2 {h : Nat} (hh : h = 2 ∨ h = 37) : kd h = (4, 2) := by rcases hh with rfl | rfl <;> decide
theorem kd7 {s : Nat} (hs : s = 66 ∨ s = 78) : kd s = (4, 7) := by rcases hs with rfl | rfl <;> decide
theorem told_spec {μ : fMem} {h : Nat} {V : HV} (H : CH μ h V) {w : Nat} (hw : w < 5) : f_X2_told h (nI w) μ = some (nI (V.1 w), μ) := by
  unfold f_X2_told
  rw [if_neg (nI_pos (by omega)), if_neg (show ¬ 6 ≤ nI w from nI_ge (b := 6) (by omega) (by omega)), gd_t (ixN (by omega) (by omega)), nI_clamp (by omega), H.1 w hw]
theorem told0 {μ : fMem} {h : Nat} {V : HV} (H : CH μ h V) : f_X2_told h 0 μ = some (nI (V.1 0), μ) := told_spec H (w := 0) (by omega)
theorem told1 {μ : fMem} {h : Nat} {V : HV} (H : CH μ h V) : f_X2_told h 1 μ = some (nI (V.1 1), μ) := told_spec H (w := 1) (by omega)
theorem told2 {μ : fMem} {h : Nat} {V : HV} (H : CH μ h V) : f_X2_told h 2 μ = some (nI (V.1 2), μ) := told_spec H (w := 2) (by omega)
theorem told3 {μ : fMem} {h : Nat} {V : HV} (H : CH μ h V) : f_X2_told h 3 μ = some (nI (V.1 3), μ) := told_spec H (w := 3) (by omega)
theorem told4 {μ : fMem} {h : Nat} {V : HV} (H : CH μ h V) : f_X2_told h 4 μ = some (nI (V.1 4), μ) := told_spec H (w := 4) (by omega)
/-- a number of one of c -/
abbrev hs (c : Nat) (n : Int32) : Prop := ¬ n < 0 ∧ ¬ nI c ≤ n
theorem hs_ex {c : Nat} {n : Int32} (h : hs c n) (hc : c < 2 ^ 31) : ∃ j, j < c ∧ n = nI j := by
  obtain ⟨j, hj, rfl⟩ := nI_of h.1
  exact ⟨j, Nat.not_le.mp fun q => h.2 (nI_le q hj), rfl⟩
theorem hs_nI {c j : Nat} (h : j < c) (hc : c < 2 ^ 31) : hs c (nI j) := ⟨nI_pos (by omega), nI_ge h hc⟩
theorem has_spec {μ : fMem} {h : Nat} {V : HV} (H : CH μ h V) {w : Nat} (hw : w < 5) (n : Int32) : f_X2_has h (nI w) n μ = some ((if hs (V.1 w) n then 1 else 0), μ) := by
  unfold f_X2_has
  simp only [if_neg (show ¬ nI w < 0 from nI_pos (by omega)), if_neg (show ¬ 6 ≤ nI w from nI_ge (b := 6) (by omega) (by omega)), gd_t (show ixo (nI w) 6 from ixN (by omega) (by omega)), nI_clamp (show w < 2 ^ 31 by omega), H.1 w hw, gd_t (Or.inl rfl : bl 0), gd_t (Or.inr rfl : bl 1)]
  by_cases h1 : n < 0
  · rw [if_pos h1, if_neg (fun q => q.1 h1)]
  · by_cases h2 : nI (V.1 w) ≤ n
    · rw [if_neg h1, if_pos h2, if_neg (fun q => q.2 h2)]
    · rw [if_neg h1, if_neg h2, if_pos ⟨h1, h2⟩]
theorem has0 {μ : fMem} {h : Nat} {V : HV} (H : CH μ h V) (n : Int32) : f_X2_has h 0 n μ = some ((if hs (V.1 0) n then 1 else 0), μ) := has_spec H (w := 0) (by omega) n
theorem has2 {μ : fMem} {h : Nat} {V : HV} (H : CH μ h V) (n : Int32) : f_X2_has h 2 n μ = some ((if hs (V.1 2) n then 1 else 0), μ) := has_spec H (w := 2) (by omega) n
theorem has3 {μ : fMem} {h : Nat} {V : HV} (H : CH μ h V) (n : Int32) : f_X2_has h 3 n μ = some ((if hs (V.1 3) n then 1 else 0), μ) := has_spec H (w := 3) (by omega) n
theorem evs_in {nm : Nat → Int32} : ∀ {L : List (Int32 × Int32)} {st st' : List Int64}, evs nm L st = some st' → (∀ v ∈ st, inB v) → ∀ v ∈ st', inB v
  | [], st, st', h, a => by cases h; exact a
  | k :: L, st, st', h, a => by
    unfold evs at h
    cases h1 : st1 nm k st with
    | none => rw [h1] at h; cases h
    | some st2 =>
      rw [h1] at h
      refine evs_in h ?_
      unfold st1 at h1
      split at h1
      · cases h1
        intro v hv
        rcases List.mem_cons.mp hv with rfl | q
        · exact inB_int _
        · exact a v q
      · split at h1
        · cases h1
          intro v hv
          rcases List.mem_cons.mp hv with rfl | q
          · exact inB_int _
          · exact a v q
        · split at h1
          · split at h1
            · rename_i x r
              cases h1
              intro v hv
              rcases List.mem_cons.mp hv with rfl | q
              · by_cases hx : x = 0 <;> simp only [hx, if_true, if_false] <;> decide
              · exact a v (List.mem_cons_of_mem _ q)
            · cases h1
          · split at h1
            · split at h1
              · split at h1
                · rename_i hB
                  cases h1
                  intro v hv
                  rcases List.mem_cons.mp hv with rfl | q
                  · exact hB
                  · exact a v (List.mem_cons_of_mem _ (List.mem_cons_of_mem _ q))
                · cases h1
              · cases h1
            · cases h1
theorem ev_in {L : List (Int32 × Int32)} {nm : Nat → Int32} {v : Int64} (h : ev L nm = some v) : inB v := by
  unfold ev at h
  cases h1 : evs nm L [] with
  | none => rw [h1] at h; cases h
  | some st =>
    rw [h1] at h
    have := evs_in h1 (fun v hv => absurd hv (List.not_mem_nil))
    match st, h with
    | [x], h => cases h; exact this v (List.mem_singleton.mpr rfl)
    | [], h => cases h
    | _ :: _ :: _, h => cases h
theorem evs_congr {nm nm' : Nat → Int32} : ∀ {L : List (Int32 × Int32)} {st : List Int64}, (∀ k ∈ L, isNm k.1 → nm (k.1 - 13).toNatClampNeg = nm' (k.1 - 13).toNatClampNeg) → evs nm L st = evs nm' L st
  | [], _, _ => rfl
  | k :: L, st, h => by
    unfold evs
    have e : st1 nm k st = st1 nm' k st := by
      unfold st1
      by_cases h1 : isNm k.1
      · rw [h k (List.mem_cons_self) h1]
      · simp only [h1, if_false]
    rw [e]
    cases st1 nm' k st with
    | none => rfl
    | some st' => exact evs_congr fun k hk => h k (List.mem_cons_of_mem _ hk)
theorem ev_congr {nm nm' : Nat → Int32} {L : List (Int32 × Int32)} (h : ∀ k ∈ L, isNm k.1 → nm (k.1 - 13).toNatClampNeg = nm' (k.1 - 13).toNatClampNeg) : ev L nm = ev L nm' := by
  unfold ev
  rw [evs_congr h]
theorem lI (x : Int32) (c : Int64) (n : Nat) (hc : c.toInt = n) (hn : n ≤ 2 ^ 30) : (x.toInt64 * c).toInt = x.toInt * n := by
  have h1 := Int32.toInt_lt x
  have h2 := Int32.le_toInt x
  have hn' : (0 : Int) ≤ n := Int.natCast_nonneg n
  have h3 : x.toInt * n ≤ 2 ^ 31 * 2 ^ 30 := Int.le_trans (Int.mul_le_mul_of_nonneg_right (show x.toInt ≤ 2 ^ 31 by omega) hn') (by omega)
  have h4 : -(2 ^ 31 * 2 ^ 30) ≤ x.toInt * n := Int.le_trans (by omega) (Int.mul_le_mul_of_nonneg_right (show -(2 ^ 31) ≤ x.toInt by omega) hn')
  rw [Int64.toInt_mul, Int32.toInt_toInt64, hc, Int.bmod_eq_of_le (by omega) (by omega)]
theorem addI {x y : Int64} {a b : Int} (hx : x.toInt = a) (hy : y.toInt = b) (h1 : a + b < 2 ^ 62) (h2 : -(2 ^ 62) ≤ a + b) : (x + y).toInt = a + b := by
  rw [Int64.toInt_add, hx, hy, Int.bmod_eq_of_le (by omega) (by omega)]
theorem encI {u ta g mo wm : Int32} (h : rng ta g mo) : (enc u ta g mo wm).toInt = (if nbit u 5 then 0 else g.toInt * 16) + (if nbit u 6 then 0 else mo.toInt * 2048) + ta.toInt + (if nbit u 4 then 0 else wm.toInt * 33554432) := by
  obtain ⟨⟨a, ha, rfl⟩, ⟨b, hb, rfl⟩, ⟨c, hc, rfl⟩⟩ := h
  have h1 := Int32.toInt_lt wm
  have h2 := Int32.le_toInt wm
  have e1 : (if nbit u 5 then (0 : Int64) else (nI b).toInt64 * 16).toInt = (if nbit u 5 then (0 : Int) else (nI b).toInt * 16) := by
    split
    · rfl
    · exact lI _ 16 16 (by decide) (by decide)
  have e2 : (if nbit u 6 then (0 : Int64) else (nI c).toInt64 * 2048).toInt = (if nbit u 6 then (0 : Int) else (nI c).toInt * 2048) := by
    split
    · rfl
    · exact lI _ 2048 2048 (by decide) (by decide)
  have e3 : (if nbit u 4 then (0 : Int64) else wm.toInt64 * 33554432).toInt = (if nbit u 4 then (0 : Int) else wm.toInt * 33554432) := by
    split
    · rfl
    · exact lI _ 33554432 33554432 (by decide) (by decide)
  have n1 := nI_toInt (n := b) (by omega)
  have n2 := nI_toInt (n := c) (by omega)
  have n3 := nI_toInt (n := a) (by omega)
  have b1 : (if nbit u 5 then (0 : Int) else (nI b).toInt * 16) ≤ 127 * 16 ∧ 0 ≤ (if nbit u 5 then (0 : Int) else (nI b).toInt * 16) := by rw [n1]; split <;> omega
  have b2 : (if nbit u 6 then (0 : Int) else (nI c).toInt * 2048) ≤ 16383 * 2048 ∧ 0 ≤ (if nbit u 6 then (0 : Int) else (nI c).toInt * 2048) := by rw [n2]; split <;> omega
  have b3 : (if nbit u 4 then (0 : Int) else wm.toInt * 33554432) ≤ 2 ^ 57 ∧ -(2 ^ 57) ≤ (if nbit u 4 then (0 : Int) else wm.toInt * 33554432) := by split <;> omega
  unfold enc
  refine addI (addI (addI e1 e2 ?_ ?_) (Int32.toInt_toInt64 _) ?_ ?_) e3 ?_ ?_ <;> rw [show (2 : Int) ^ 62 = 4611686018427387904 by decide] <;> (try rw [n3]) <;> omega
theorem rng_u {ta g mo : Int32} (h : rng ta g mo) : 0 ≤ ta.toInt ∧ ta.toInt < 16 ∧ 0 ≤ g.toInt ∧ g.toInt < 128 ∧ 0 ≤ mo.toInt ∧ mo.toInt < 16384 := by
  obtain ⟨⟨a, ha, rfl⟩, ⟨b, hb, rfl⟩, ⟨c, hc, rfl⟩⟩ := h
  rw [nI_toInt (by omega), nI_toInt (by omega), nI_toInt (by omega)]
  omega
theorem enc_ne {u ta g mo wm : Int32} (h : rng ta g mo) (h9 : ta.toInt < 15) : ¬ enc u ta g mo wm = -1 := by
  intro q
  have e := encI (u := u) (wm := wm) h
  have hr := rng_u h
  rw [q, show (-1 : Int64).toInt = -1 by decide] at e
  split at e <;> split at e <;> split at e <;> omega
theorem enc_inj {u ta g mo wm ta' g' mo' wm' : Int32} (h : rng ta g mo) (h' : rng ta' g' mo') (e : enc u ta g mo wm = enc u ta' g' mo' wm') : ta = ta' ∧ (¬ nbit u 5 → g = g') ∧ (¬ nbit u 6 → mo = mo') ∧ (¬ nbit u 4 → wm = wm') := by
  have e1 := encI (u := u) (wm := wm) h
  have e2 := encI (u := u) (wm := wm') h'
  have hr := rng_u h
  have hr' := rng_u h'
  rw [e] at e1
  rw [e2] at e1
  have k : ta.toInt = ta'.toInt ∧ (¬ nbit u 5 → g.toInt = g'.toInt) ∧ (¬ nbit u 6 → mo.toInt = mo'.toInt) ∧ (¬ nbit u 4 → wm.toInt = wm'.toInt) := by
    by_cases c5 : nbit u 5 <;> by_cases c6 : nbit u 6 <;> by_cases c4 : nbit u 4 <;> (first | rw [if_pos c5, if_pos c5] at e1 | rw [if_neg c5, if_neg c5] at e1) <;> (first | rw [if_pos c6, if_pos c6] at e1 | rw [if_neg c6, if_neg c6] at e1) <;> (first | rw [if_pos c4, if_pos c4] at e1 | rw [if_neg c4, if_neg c4] at e1) <;> refine ⟨by omega, fun q => ?_, fun q => ?_, fun q => ?_⟩ <;> first | omega | exact absurd c5 q | exact absurd c6 q | exact absurd c4 q
  exact ⟨Int32.toInt_inj.mp k.1, fun q => Int32.toInt_inj.mp (k.2.1 q), fun q => Int32.toInt_inj.mp (k.2.2.1 q), fun q => Int32.toInt_inj.mp (k.2.2.2 q)⟩
theorem lkv_enc {V : HV} (hV : HW V) {d t : Nat} {ta g mo wm ta' g' mo' wm' : Int32} (h : rng ta g mo) (h' : rng ta' g' mo') (e : enc (V.2.1 9 0) ta g mo wm = enc (V.2.1 9 0) ta' g' mo' wm') : lkv V d t ta g mo wm = lkv V d t ta' g' mo' wm' := by
  obtain ⟨e1, e5, e6, e4⟩ := enc_inj h h' e
  subst e1
  have q : ev (V.2.2.2 0) (nmT V d t ta g mo wm) = ev (V.2.2.2 0) (nmT V d t ta g' mo' wm') := by
    refine ev_congr fun k hk hn => ?_
    obtain ⟨j, hj, hkj⟩ := isNm_ex hn
    have hu := fun hb => hV.2.2.2.2.2.2.2.2.2.2.1 j hj hb k hk hkj
    rw [hkj, show nI (j + 13) - 13 = nI j from nI_sub j 13, nI_clamp (by omega)]
    unfold nmT nmv
    match j, hj with
    | 0, _ => rfl
    | 1, _ => rfl
    | 2, _ => rfl
    | 3, _ => rfl
    | 4, _ => exact e4 hu
    | 5, _ => exact e5 hu
    | 6, _ => exact e6 hu
  unfold lkv
  rw [q]
