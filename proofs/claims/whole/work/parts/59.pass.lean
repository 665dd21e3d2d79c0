/-! Mondays that go by -/
def glassS (V : HV) (mo : Int32) : Int32 := if V.1 4 = 0 then 50 else V.2.1 7 (mo.toNatClampNeg % V.1 4)
def comB (V : HV) (g : Int32) (ts : Nat → Int32) (mo ab al : Int32) (d : Nat) : Bool := decide (¬ nI d = ab) && (decide (¬ al = 0) || cmv V d (ts d) g mo)
def visN (V : HV) (g : Int32) (ts : Nat → Int32) (com : Nat → Bool) : Nat → SV → SV
  | 0, S => S
  | d + 1, S => if com d = true then visitS V g ts d (visN V g ts com d S) else visN V g ts com d S
def dayG (V : HV) (g : Int32) (ts : Nat → Int32) (ab al : Int32) (S : SV) : SV := let S' := visN V g ts (comB V g ts (S 6 0) ab al) (V.1 3) S; up S' 6 0 (S' 6 0 + 1)
/-- the day's gauge: by the glass, or by chance -/
def gOf (V : HV) (dr : Int32) (S : SV) (k : Nat) : Int32 := if dr = 0 then glassS V (S 6 0) else nI (gx (nx k))
def dayS (V : HV) (ts : Nat → Int32) (ab al dr : Int32) (q : SV × Nat) : SV × Nat := (dayG V (gOf V dr q.1 q.2) ts ab al q.1, if dr = 0 then q.2 else nx q.2)
def passS (V : HV) (ts : Nat → Int32) (ab al dr : Int32) : Nat → SV × Nat → SV × Nat
  | 0, q => q
  | n + 1, q => dayS V ts ab al dr (passS V ts ab al dr n q)
theorem glass_up {V : HV} (hV : HW V) (mo : Int32) : Upto 99 (glassS V mo) := by
  unfold glassS
  by_cases h : V.1 4 = 0
  · rw [if_pos h]; exact ⟨50, by omega, rfl⟩
  · rw [if_neg h]; exact hV.2.2.2.2.2.2.2.2.1 _ (Nat.mod_lt _ (by omega))
theorem gOf_up {V : HV} (hV : HW V) (dr : Int32) (S : SV) (k : Nat) : Upto 99 (gOf V dr S k) := by
  unfold gOf
  by_cases h : dr = 0
  · rw [if_pos h]; exact glass_up hV _
  · rw [if_neg h]; exact ⟨_, gx_le _, rfl⟩
/-- the course's house, stand and choices, before it looks at the glass -/
def CP (μ : fMem) (V : HV) (h s : Nat) (ts : Nat → Int32) (ab al dr : Int32) (k : Nat) : Prop := (h = 2 ∨ h = 37) ∧ (s = 66 ∨ s = 78) ∧ μ.2.2 84 8 = h ∧ μ.2.2 84 9 = s ∧ (∀ d, d < V.1 3 → Upto 9 (ts d) ∧ ts d = if nI d = μ.1 84 4 then μ.1 84 5 else V.2.1 3 d) ∧ μ.1 84 2 = ab ∧ μ.1 84 3 = al ∧ μ.1 84 7 = dr ∧ (¬ dr = 0 → μ.2.1 84 6 = lN k ∧ k < 2 ^ 31)
def Crp (μ : fMem) (V : HV) (h s : Nat) (S : SV) (ts : Nat → Int32) (ab al dr : Int32) (k : Nat) : Prop := HW V ∧ SW V S ∧ CH μ h V ∧ CS μ s V S ∧ CP μ V h s ts ab al dr k ∧ CC μ V
section Pass
variable {μ : fMem} {V : HV} {h s : Nat} {S : SV} {g : Int32} {ts : Nat → Int32} {ab al dr : Int32} {k : Nat}
theorem glassOf_spec (H : CH μ h V) (hV : HW V) {m : Nat} (hm : m < 2 ^ 31) : f_X2_glassOf h (nI m) μ = some (glassS V (nI m), μ) := by
  have h9 : V.1 4 ≤ 9 := hV.2.2.2.2.1
  unfold f_X2_glassOf glassS
  rw [told4 H, bd_some, nI_clamp hm]
  by_cases h0 : V.1 4 = 0
  · rw [if_pos h0, h0, if_pos (by decide)]
  · have hlt : m % V.1 4 < V.1 4 := Nat.mod_lt _ (by omega)
    rw [if_neg h0, if_neg (nI_nle (by omega) (by omega)), if_neg (show ¬ 9 < nI (V.1 4) from nI_nlt (a := 9) (by omega) (by omega)), if_pos (nI_pos' hm), gd_t (nI_ne0 (by omega) (by omega)), irm_nI hm (by omega) (by omega), gd_t (ixN (by omega) (by omega)), nI_clamp (by omega), H.2.2.2.2.1 _ hlt]
theorem looksAt_eq (c : Nat) (x : Int32) (μ : fMem) : f_X3_looksAt c x μ = some ((if (μ.1 c 2 &&& shl 1 x) = 0 then 0 else 1), μ) := by
  unfold f_X3_looksAt
  by_cases q : (μ.1 c 2 &&& shl 1 x) = 0
  · rw [if_pos q, if_pos q, gd_t (Or.inl rfl)]
  · rw [if_neg q, if_neg q, gd_t (Or.inr rfl)]
/-- what looking at the glass writes -/
def lookM (μ : fMem) (g : Int32) (dy : Int64) (w : Int32) : fMem := sI (sL (sI μ 84 10 g) 84 15 dy) 84 16 w
theorem look65 (H : CH μ h V) (hh : h = 2 ∨ h = 37) (hz : s = 66 ∨ s = 78) (e8 : μ.2.2 84 8 = h) (e9 : μ.2.2 84 9 = s) (hS : μ.1 s 6 = S 6 0) (e10 : μ.1 84 10 = g) : f_X0_look_j65 84 μ = some ((), sI (sL μ 84 15 ((if nbit (V.2.1 9 0) 5 then 0 else g.toInt64 * 16) + (if nbit (V.2.1 9 0) 6 then 0 else (S 6 0).toInt64 * 2048))) 84 16 (if nbit (V.2.1 9 0) 4 then 0 else 1)) := by
  have hu := H.2.2.2.2.2.2.2.2.2.2
  unfold f_X0_look_j65 f_X0_look_j95 f_X0_look_j120 vl
  simp only [e8, gd_t (kd2 hh), looksAt_eq, bd_some, hu, e10, sL_i]
  by_cases c5 : nbit (V.2.1 9 0) 5
  · rw [if_pos (show (V.2.1 9 0 &&& shl 1 5) = 0 from c5), if_pos c5]
    simp only [if_true]
    by_cases c6 : nbit (V.2.1 9 0) 6
    · rw [if_pos (show (V.2.1 9 0 &&& shl 1 6) = 0 from c6), if_pos c6]
      simp only [if_true]
      by_cases c4 : nbit (V.2.1 9 0) 4
      · rw [if_pos (show (V.2.1 9 0 &&& shl 1 4) = 0 from c4), if_pos c4, gd_t (Or.inl rfl)]
      · rw [if_neg (show ¬ (V.2.1 9 0 &&& shl 1 4) = 0 from c4), if_neg c4, gd_t (Or.inr rfl)]
    · rw [if_neg (show ¬ (V.2.1 9 0 &&& shl 1 6) = 0 from c6), if_neg c6]
      simp only [if_neg (show ¬ (1 : Int32) = 0 by decide), e9, gd_t (kd7 hz), hS]
      by_cases c4 : nbit (V.2.1 9 0) 4
      · rw [if_pos (show (V.2.1 9 0 &&& shl 1 4) = 0 from c4), if_pos c4, gd_t (Or.inl rfl)]
      · rw [if_neg (show ¬ (V.2.1 9 0 &&& shl 1 4) = 0 from c4), if_neg c4, gd_t (Or.inr rfl)]
  · rw [if_neg (show ¬ (V.2.1 9 0 &&& shl 1 5) = 0 from c5), if_neg c5]
    simp only [if_neg (show ¬ (1 : Int32) = 0 by decide)]
    by_cases c6 : nbit (V.2.1 9 0) 6
    · rw [if_pos (show (V.2.1 9 0 &&& shl 1 6) = 0 from c6), if_pos c6]
      simp only [if_true]
      by_cases c4 : nbit (V.2.1 9 0) 4
      · rw [if_pos (show (V.2.1 9 0 &&& shl 1 4) = 0 from c4), if_pos c4, gd_t (Or.inl rfl)]
      · rw [if_neg (show ¬ (V.2.1 9 0 &&& shl 1 4) = 0 from c4), if_neg c4, gd_t (Or.inr rfl)]
    · rw [if_neg (show ¬ (V.2.1 9 0 &&& shl 1 6) = 0 from c6), if_neg c6]
      simp only [if_neg (show ¬ (1 : Int32) = 0 by decide), e9, gd_t (kd7 hz), hS]
      by_cases c4 : nbit (V.2.1 9 0) 4
      · rw [if_pos (show (V.2.1 9 0 &&& shl 1 4) = 0 from c4), if_pos c4, gd_t (Or.inl rfl)]
      · rw [if_neg (show ¬ (V.2.1 9 0 &&& shl 1 4) = 0 from c4), if_neg c4, gd_t (Or.inr rfl)]
theorem look_spec (C : Crp μ V h s S ts ab al dr k) : Ok (f_X0_look 84 μ) (fun _ μ' => Crs μ' V h s S (gOf V dr S k) ts ∧ CP μ' V h s ts ab al dr (if dr = 0 then k else nx k) ∧ Kp [84] [84] μ μ' ∧ μ'.1 84 0 = μ.1 84 0 ∧ μ'.1 84 1 = μ.1 84 1) := by
  obtain ⟨hV, hS, cH, cS, ⟨hh, hz, p1, p2, p3, p4, p5, p6, p7⟩, cc⟩ := C
  have key : ∀ (μ1 : fMem) (g : Int32) (k' : Nat), Kp [84] [84] μ μ1 → (∀ j, ¬ j = 10 → μ1.1 84 j = μ.1 84 j) → μ1.1 84 10 = g → g = gOf V dr S k → (¬ dr = 0 → μ1.2.1 84 6 = lN k' ∧ k' < 2 ^ 31) → k' = (if dr = 0 then k else nx k) → Ok (f_X0_look_j65 84 μ1) (fun _ μ' => Crs μ' V h s S (gOf V dr S k) ts ∧ CP μ' V h s ts ab al dr (if dr = 0 then k else nx k) ∧ Kp [84] [84] μ μ' ∧ μ'.1 84 0 = μ.1 84 0 ∧ μ'.1 84 1 = μ.1 84 1) := by
    intro μ1 g k' K hj h10 hg hk hk'
    have n84 : ∀ x, ¬ x = 84 → x ∉ [84] := fun x hx q => hx (List.mem_singleton.mp q)
    have cH1 : CH μ1 h V := cH.of fun x a b => K.2.1 x (n84 x (by rcases hh with rfl | rfl <;> omega))
    have cS1 : CS μ1 s V S := cS.of fun x a b => K.2.1 x (n84 x (by rcases hz with rfl | rfl <;> omega))
    rw [look65 (S := S) cH1 hh hz (by rw [K.1]; exact p1) (by rw [K.1]; exact p2) cS1.2.2.2.2.2.2.1 h10, Ok_some]
    have K' := (K.sL (j := 15) (v := ((if nbit (V.2.1 9 0) 5 then 0 else g.toInt64 * 16) + (if nbit (V.2.1 9 0) 6 then 0 else (S 6 0).toInt64 * 2048))) (List.mem_singleton.mpr rfl)).sI (j := 16) (v := if nbit (V.2.1 9 0) 4 then 0 else 1) (List.mem_singleton.mpr rfl)
    have r84 : ∀ j, ¬ j = 10 → ¬ j = 16 → (sI (sL μ1 84 15 ((if nbit (V.2.1 9 0) 5 then 0 else g.toInt64 * 16) + (if nbit (V.2.1 9 0) 6 then 0 else (S 6 0).toInt64 * 2048))) 84 16 (if nbit (V.2.1 9 0) 4 then 0 else 1)).1 84 j = μ.1 84 j := by
      intro j a b
      rw [sI_i, if_neg (by omega), sL_i]
      exact hj j a
    have e10 : (sI (sL μ1 84 15 ((if nbit (V.2.1 9 0) 5 then 0 else g.toInt64 * 16) + (if nbit (V.2.1 9 0) 6 then 0 else (S 6 0).toInt64 * 2048))) 84 16 (if nbit (V.2.1 9 0) 4 then 0 else 1)).1 84 10 = g := by
      rw [sI_i, if_neg (by omega), sL_i]; exact h10
    have e15 : (sI (sL μ1 84 15 ((if nbit (V.2.1 9 0) 5 then 0 else g.toInt64 * 16) + (if nbit (V.2.1 9 0) 6 then 0 else (S 6 0).toInt64 * 2048))) 84 16 (if nbit (V.2.1 9 0) 4 then 0 else 1)).2.1 84 15 = ((if nbit (V.2.1 9 0) 5 then 0 else g.toInt64 * 16) + (if nbit (V.2.1 9 0) 6 then 0 else (S 6 0).toInt64 * 2048)) := by
      rw [sI_l, sL_l, if_pos ⟨rfl, rfl⟩]
    have e16 : (sI (sL μ1 84 15 ((if nbit (V.2.1 9 0) 5 then 0 else g.toInt64 * 16) + (if nbit (V.2.1 9 0) 6 then 0 else (S 6 0).toInt64 * 2048))) 84 16 (if nbit (V.2.1 9 0) 4 then 0 else 1)).1 84 16 = if nbit (V.2.1 9 0) 4 then 0 else 1 := by
      rw [sI_i, if_pos ⟨rfl, rfl⟩]
    have e6 : (sI (sL μ1 84 15 ((if nbit (V.2.1 9 0) 5 then 0 else g.toInt64 * 16) + (if nbit (V.2.1 9 0) 6 then 0 else (S 6 0).toInt64 * 2048))) 84 16 (if nbit (V.2.1 9 0) 4 then 0 else 1)).2.1 84 6 = μ1.2.1 84 6 := by
      rw [sI_l, sL_l, if_neg (by omega)]
    generalize sI (sL μ1 84 15 ((if nbit (V.2.1 9 0) 5 then 0 else g.toInt64 * 16) + (if nbit (V.2.1 9 0) 6 then 0 else (S 6 0).toInt64 * 2048))) 84 16 (if nbit (V.2.1 9 0) 4 then 0 else 1) = μ' at *
    subst hg
    have hts : ∀ d, d < V.1 3 → Upto 9 (ts d) ∧ ts d = if nI d = μ'.1 84 4 then μ'.1 84 5 else V.2.1 3 d := by
      rw [r84 4 (by omega) (by omega), r84 5 (by omega) (by omega)]; exact p3
    refine ⟨⟨hV, hS, cH.of fun x a b => K'.2.1 x (n84 x (by rcases hh with rfl | rfl <;> omega)), cS.of fun x a b => K'.2.1 x (n84 x (by rcases hz with rfl | rfl <;> omega)), ⟨hh, hz, by rw [K'.1]; exact p1, by rw [K'.1]; exact p2, e10, gOf_up hV _ _ _, hts, e15, e16⟩, cc.of (K'.2.1 122 (by decide)) (K'.2.2 121 (by decide))⟩, ⟨hh, hz, by rw [K'.1]; exact p1, by rw [K'.1]; exact p2, hts, by rw [r84 2 (by omega) (by omega)]; exact p4, by rw [r84 3 (by omega) (by omega)]; exact p5, by rw [r84 7 (by omega) (by omega)]; exact p6, fun q => by rw [← hk', e6]; exact hk q⟩, K', r84 0 (by omega) (by omega), r84 1 (by omega) (by omega)⟩
  unfold f_X0_look
  rw [p6]
  by_cases h0 : dr = 0
  · obtain ⟨m, hm, em⟩ := hS.2.1
    rw [if_pos h0, Ok_vl, p1, gd_t (kd2 hh), Ok_vl, p2, gd_t (kd7 hz), cS.2.2.2.2.2.2.1, em, glassOf_spec cH hV (by omega), bd_some, Ok_vl]
    exact key _ (glassS V (nI m)) k (Kp.rfl'.sI (List.mem_singleton.mpr rfl)) (fun j hj => by rw [sI_i, if_neg (by omega)]) (by rw [sI_i, if_pos ⟨rfl, rfl⟩]) (by unfold gOf; rw [if_pos h0, em]) (fun q => absurd h0 q) (by rw [if_pos h0])
  · obtain ⟨ek, hk⟩ := p7 h0
    rw [if_neg h0, Ok_vl, Ok_vl, sL_l, if_pos ⟨rfl, rfl⟩, ek, draw64, gauge64 (nx_lt k)]
    exact key _ (nI (gx (nx k))) (nx k) ((Kp.rfl'.sL (List.mem_singleton.mpr rfl)).sI (List.mem_singleton.mpr rfl)) (fun j hj => by rw [sI_i, if_neg (by omega), sL_i]) (by rw [sI_i, if_pos ⟨rfl, rfl⟩]) (by unfold gOf; rw [if_neg h0]) (fun _ => ⟨by rw [sI_l, sL_l, if_pos ⟨rfl, rfl⟩], nx_lt k⟩) (by rw [if_neg h0])
theorem comers_spec (C : Crs μ V h s S g ts) (e2 : μ.1 84 2 = ab) (e3 : μ.1 84 3 = al) : Ok (f_X0_comers 84 μ) (fun x μ' => x = orN (comB V g ts (S 6 0) ab al) (V.1 3) ∧ CK μ μ' V) := by
  have hh := C.2.2.2.2.1.1
  have hD6 : V.1 3 ≤ 6 := C.1.2.2.2.1
  unfold f_X0_comers
  rw [Ok_bd]
  refine Ok.mono (Q := fun u (q : Int32 × Int32 × fMem) => q.1 = orN (comB V g ts (S 6 0) ab al) (V.1 3) ∧ CK μ q.2.2 V) (Ok_lp (V.1 3) (fun i (q : Int32 × Int32 × fMem) => q.2.1 = nI i ∧ q.1 = orN (comB V g ts (S 6 0) ab al) i ∧ CK μ q.2.2 V) (by omega) ⟨rfl, rfl, Kp.rfl', C.2.2.2.2.2⟩ ?_) ?_
  · rintro i ⟨b, x, μ1⟩ hi ⟨hx, hb, K1⟩
    dsimp only at hx hb K1 ⊢
    subst hx hb
    have C1 := K1.crs C
    unfold f_X0_comers_L4 f_X0_comers_j39
    rw [Ok_vl, C1.2.2.2.2.1.2.2.1, gd_t (kd2 hh), told3 C1.2.2.1, bd_some]
    rcases Nat.lt_or_ge i (V.1 3) with q | q
    · rw [if_neg (nI_ge q (by omega)), K1.1.i (show 84 ∉ [122] by decide), K1.1.i (show 84 ∉ [122] by decide), e2, e3]
      have un : ∀ b : Bool, comB V g ts (S 6 0) ab al i = b → orN (comB V g ts (S 6 0) ab al) (i + 1) = if b = true then orN (comB V g ts (S 6 0) ab al) i ||| shl 1 (nI i) else orN (comB V g ts (S 6 0) ab al) i := by
        rintro b rfl; rfl
      by_cases h1 : nI i = ab
      · rw [if_pos h1, Ok_vl, nI_1, Ok_some]
        exact Or.inl ⟨rfl, q, rfl, by rw [un false (by unfold comB; simp [h1])]; rfl, K1⟩
      · rw [if_neg h1]
        by_cases h2 : al = 0
        · rw [if_pos h2, Ok_bd]
          refine (isComing_spec C1 q).mono ?_
          rintro y μ2 ⟨rfl, K2⟩
          by_cases h3 : cmv V i (ts i) g (S 6 0) = true
          · rw [if_pos h3, if_neg (by decide), Ok_vl, Ok_vl, nI_1, Ok_some]
            exact Or.inl ⟨rfl, q, rfl, by rw [un true (by unfold comB; simp [h1, h3])]; rfl, K1.trans K2⟩
          · rw [if_neg h3, if_pos rfl, Ok_vl, nI_1, Ok_some]
            exact Or.inl ⟨rfl, q, rfl, by rw [un false (by unfold comB; simp [h2, h3])]; rfl, K1.trans K2⟩
        · rw [if_neg h2, Ok_vl, Ok_vl, nI_1, Ok_some]
          exact Or.inl ⟨rfl, q, rfl, by rw [un true (by unfold comB; simp [h1, h2])]; rfl, K1⟩
    · rw [if_pos (nI_le q (by omega)), Ok_some]
      have : i = V.1 3 := by omega
      subst this
      exact Or.inr ⟨0, rfl, rfl, K1⟩
  · rintro u ⟨b, x, μ1⟩ ⟨hb, K1⟩
    exact Ok_some.mpr ⟨hb, K1⟩
/-- what Mondays change, and what not -/
def PK (s : Nat) (V : HV) (μ μ' : fMem) (S S' : SV) : Prop := Kp (sV s) (84 :: sB) μ μ' ∧ μ'.1 84 0 + sumN (V.1 2) (S 1) = μ.1 84 0 + sumN (V.1 2) (S' 1) ∧ μ'.1 84 1 + sumN (V.1 2) (S 2) = μ.1 84 1 + sumN (V.1 2) (S' 2) ∧ S' 5 0 = S 5 0
end Pass
