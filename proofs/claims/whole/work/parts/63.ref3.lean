/-! the reference's visits and Mondays -/
def MP (ν : fMem) (V : HV) (ts : Nat → Int32) (tw ti dg : Int32) : Prop := ν.1 181 47 = tw ∧ ν.1 181 48 = ti ∧ (∀ d, d < V.1 3 → Upto 9 (ts d) ∧ ts d = if nI d = ν.1 181 50 then ν.1 181 51 else V.2.1 3 d) ∧ ν.1 181 49 = dg
def gM (V : HV) (dg : Int32) (S : SV) : Int32 := if dg = -1 then glassS V (S 6 0) else dg
def Mrp (ν : fMem) (V : HV) (x : Nat) (S : SV) (ts : Nat → Int32) (tw ti dg : Int32) : Prop := HW V ∧ SW V S ∧ MH ν V ∧ MSt ν x V S tw ti ∧ MP ν V ts tw ti dg ∧ x < 23
section Ref3
variable {ν : fMem} {V : HV} {x : Nat} {S : SV} {g : Int32} {ts : Nat → Int32} {tw ti dg : Int32}
theorem Mrp.s (M : Mrp ν V x S ts tw ti dg) : Mrs ν V x S (gM V dg S) ts tw ti := by
  obtain ⟨h1, h2, h3, h4, ⟨p1, p2, p3, p4⟩, h6⟩ := M
  exact ⟨h1, h2, h3, h4, ⟨p1, p2, p3, by rw [p4]; rfl⟩, h6⟩
theorem MP.of {ν' : fMem} (H : MP ν V ts tw ti dg) (e : ∀ j, 47 ≤ j → j ≤ 51 → ν'.1 181 j = ν.1 181 j) : MP ν' V ts tw ti dg := by
  unfold MP at H ⊢
  rw [e 47 (by omega) (by omega), e 48 (by omega) (by omega), e 49 (by omega) (by omega), e 50 (by omega) (by omega), e 51 (by omega) (by omega)]
  exact H
theorem MSt.put8 (H : MSt ν x V S tw ti) {i j : Nat} (hi : i ≤ 2) (hj : j < 8) (v : Int32) (h0 : i = 0 → ¬ (tw = 5 ∧ nI j = ti)) : MSt (sI ν (206 + i) (8 * x + j) v) x V (up S i j v) tw ti := by
  obtain ⟨a1, a2, a3, a4, a5, a6, a7⟩ := H
  have e : ∀ c k, c ≤ 2 → (sI ν (206 + i) (8 * x + j) v).1 (206 + c) (8 * x + k) = if c = i ∧ k = j then v else ν.1 (206 + c) (8 * x + k) := by
    intro c k hc
    rw [sI_i]
    by_cases q : c = i ∧ k = j
    · rw [if_pos q, if_pos ⟨by omega, by omega⟩]
    · rw [if_neg q, if_neg (by omega)]
  have f : ∀ c k, ¬ (206 ≤ c ∧ c ≤ 208) → (sI ν (206 + i) (8 * x + j) v).1 c k = ν.1 c k := fun c k hc => by rw [sI_i, if_neg (by omega)]
  refine ⟨fun k hk => ?_, fun k hk => ?_, fun k hk => ?_, fun k hk => ?_, fun k hk => ?_, ?_, ?_⟩
  · rw [e 0 k (by omega)]
    by_cases q : 0 = i ∧ k = j
    · rw [if_neg (by rw [q.2]; exact h0 q.1.symm), if_pos q]; unfold up; rw [if_pos q]
    · rw [if_neg q, up_ne q]; exact a1 k hk
  · rw [e 1 k (by omega)]
    by_cases q : 1 = i ∧ k = j
    · rw [if_pos q]; unfold up; rw [if_pos q]
    · rw [if_neg q, up_ne q]; exact a2 k hk
  · rw [e 2 k (by omega)]
    by_cases q : 2 = i ∧ k = j
    · rw [if_pos q]; unfold up; rw [if_pos q]
    · rw [if_neg q, up_ne q]; exact a3 k hk
  · rw [f _ _ (by omega), up_ne (by omega)]; exact a4 k hk
  · rw [f _ _ (by omega), up_ne (by omega)]; exact a5 k hk
  · rw [f _ _ (by omega), up_ne (by omega)]; exact a6
  · rw [f _ _ (by omega), up_ne (by omega)]; exact a7
theorem MSt.put6 (H : MSt ν x V S tw ti) {i j : Nat} (hi : i = 0 ∨ i = 1) (hj : j < 6) (v : Int32) : MSt (sI ν (209 + i) (6 * x + j) v) x V (up S (3 + i) j v) tw ti := by
  obtain ⟨a1, a2, a3, a4, a5, a6, a7⟩ := H
  have e : ∀ c k, c ≤ 1 → (sI ν (209 + i) (6 * x + j) v).1 (209 + c) (6 * x + k) = if 3 + c = 3 + i ∧ k = j then v else ν.1 (209 + c) (6 * x + k) := by
    intro c k hc
    rw [sI_i]
    by_cases q : 3 + c = 3 + i ∧ k = j
    · rw [if_pos q, if_pos ⟨by omega, by omega⟩]
    · rw [if_neg q, if_neg (by omega)]
  have f : ∀ c k, ¬ (209 ≤ c ∧ c ≤ 210) → (sI ν (209 + i) (6 * x + j) v).1 c k = ν.1 c k := fun c k hc => by rw [sI_i, if_neg (by omega)]
  refine ⟨fun k hk => ?_, fun k hk => ?_, fun k hk => ?_, fun k hk => ?_, fun k hk => ?_, ?_, ?_⟩
  · rw [f _ _ (by omega), up_ne (by omega)]; exact a1 k hk
  · rw [f _ _ (by omega), up_ne (by omega)]; exact a2 k hk
  · rw [f _ _ (by omega), up_ne (by omega)]; exact a3 k hk
  · rw [e 0 k (by omega)]
    by_cases q : 3 + 0 = 3 + i ∧ k = j
    · rw [if_pos q]; unfold up; rw [if_pos q]
    · rw [if_neg q, up_ne q]; exact a4 k hk
  · rw [e 1 k (by omega)]
    by_cases q : 3 + 1 = 3 + i ∧ k = j
    · rw [if_pos q]; unfold up; rw [if_pos q]
    · rw [if_neg q, up_ne q]; exact a5 k hk
  · rw [f _ _ (by omega), up_ne (by omega)]; exact a6
  · rw [f _ _ (by omega), up_ne (by omega)]; exact a7
theorem Mrs.put8 (M : Mrs ν V x S g ts tw ti) {i j : Nat} (hi : i ≤ 2) (hj : j < 8) {v : Int32} (h0 : i = 0 → ¬ (tw = 5 ∧ nI j = ti)) (hw : SW V (up S i j v)) : Mrs (sI ν (206 + i) (8 * x + j) v) V x (up S i j v) g ts tw ti := by
  obtain ⟨h1, h2, h3, h4, h5, h6⟩ := M
  have e : ∀ k j', k < 203 → (sI ν (206 + i) (8 * x + j) v).1 k j' = ν.1 k j' := fun k j' hk => by rw [sI_i, if_neg (by omega)]
  exact ⟨h1, hw, h3.of h1 (fun c a b j' _ => e c j' (by omega)), h4.put8 hi hj v h0, h5.of (fun j' _ _ => e 181 j' (by omega)) (up_ne (by omega)), h6⟩
theorem Mrs.put6 (M : Mrs ν V x S g ts tw ti) {i j : Nat} (hi : i = 0 ∨ i = 1) (hj : j < 6) {v : Int32} (hw : SW V (up S (3 + i) j v)) : Mrs (sI ν (209 + i) (6 * x + j) v) V x (up S (3 + i) j v) g ts tw ti := by
  obtain ⟨h1, h2, h3, h4, h5, h6⟩ := M
  have e : ∀ k j', k < 203 → (sI ν (209 + i) (6 * x + j) v).1 k j' = ν.1 k j' := fun k j' hk => by rw [sI_i, if_neg (by omega)]
  exact ⟨h1, hw, h3.of h1 (fun c a b j' _ => e c j' (by omega)), h4.put6 hi hj v, h5.of (fun j' _ _ => e 181 j' (by omega)) (up_ne (by omega)), h6⟩
theorem km_x {ν' : fMem} (K : KM ν ν') : KX x ν ν' := K.wide (fun _ _ z => Or.inl z) (fun _ _ z => z)
theorem visits_spec (M : Mrs ν V x S g ts tw ti) {d : Nat} (hd : d < V.1 3) : Ok (f_X11_visits 181 (nI x) (nI d) ν) (fun _ ν' => ∃ S', Mrs ν' V x S' g ts tw ti ∧ KX x ν ν' ∧ (¬ tw = 4 → S' = visitS V g ts d S) ∧ (tw = 4 → S' 1 = S 1 ∧ S' 2 = S 2) ∧ S' 6 0 = S 6 0) := by
  have h8 : V.1 2 ≤ 8 := M.1.2.2.1
  have hR6 : V.1 0 ≤ 6 := M.1.1
  have hD6 : V.1 3 ≤ 6 := M.1.2.2.2.1
  have hx := M.2.2.2.2.2
  unfold f_X11_visits
  simp only [Nat.reduceAdd]
  rw [Ok_bd]
  refine (seatOf_spec M hd).mono ?_
  rintro y ν1 ⟨hy, K1⟩
  have M1 := M.km K1
  unfold visitS
  cases e : seatS V g ts S d with
  | none =>
    rw [e] at hy
    have hy : y = -1 := hy
    subst hy
    rw [if_pos rfl, Ok_some]
    exact ⟨S, M1, km_x K1, fun _ => rfl, fun _ => ⟨rfl, rfl⟩, rfl⟩
  | some r =>
    obtain ⟨hr, -⟩ := bst_ok e
    rw [e] at hy
    have hy : y = nI r := hy
    subst hy
    dsimp only
    simp only [if_neg (nI_nm1 (show r < 2 ^ 31 by omega)), e6x, gd_t (show ixo (nI (6 * x + r)) 138 from ixN (by omega) (by omega)), gd_t (show ixo (nI (6 * x + d)) 138 from ixN (by omega) (by omega)), nI_clamp (show 6 * x + r < 2 ^ 31 by omega), nI_clamp (show 6 * x + d < 2 ^ 31 by omega)]
    rw [Ok_vl, M1.2.2.2.1.2.2.2.1 r (by omega)]
    have M2 : Mrs (sI ν1 209 (6 * x + r) (S 3 r + 1)) V x (up S 3 r (S 3 r + 1)) g ts tw ti := M1.put6 (i := 0) (by omega) (by omega) (M.2.1.put1 (by omega) (by omega) (by omega) (by omega) (by omega))
    have K2 : KX x ν (sI ν1 209 (6 * x + r) (S 3 r + 1)) := (km_x (x := x) K1).sI (Or.inr (Or.inr (Or.inr ⟨by omega, by omega, by omega, by omega⟩)))
    generalize sI ν1 209 (6 * x + r) (S 3 r + 1) = ν2 at M2 K2 ⊢
    rw [Ok_vl, M2.2.2.2.1.2.2.2.2.1 d (by omega), up_ne (show ¬ (4 = 3 ∧ d = r) by omega)]
    have M3 : Mrs (sI ν2 210 (6 * x + d) (S 4 d + 1)) V x (up (up S 3 r (S 3 r + 1)) 4 d (S 4 d + 1)) g ts tw ti := M2.put6 (i := 1) (by omega) (by omega) (M2.2.1.put1 (by omega) (by omega) (by omega) (by omega) (by omega))
    have K3 : KX x ν (sI ν2 210 (6 * x + d) (S 4 d + 1)) := K2.sI (Or.inr (Or.inr (Or.inr ⟨by omega, by omega, by omega, by omega⟩)))
    generalize sI ν2 210 (6 * x + d) (S 4 d + 1) = ν3 at M3 K3 ⊢
    have hS1 : up (up S 3 r (S 3 r + 1)) 4 d (S 4 d + 1) 1 = S 1 ∧ up (up S 3 r (S 3 r + 1)) 4 d (S 4 d + 1) 2 = S 2 ∧ up (up S 3 r (S 3 r + 1)) 4 d (S 4 d + 1) 6 0 = S 6 0 := by
      refine ⟨?_, ?_, ?_⟩
      · funext j; rw [up_ne (by omega), up_ne (by omega)]
      · funext j; rw [up_ne (by omega), up_ne (by omega)]
      · rw [up_ne (by omega), up_ne (by omega)]
    generalize up (up S 3 r (S 3 r + 1)) 4 d (S 4 d + 1) = S1 at M3 hS1 ⊢
    obtain ⟨hS1, hS2, hS6⟩ := hS1
    rw [Ok_bd]
    refine (worst_spec M3 hd (by omega)).mono ?_
    rintro u ⟨b, l, y, ν4⟩ ⟨hb, hl, K4⟩
    dsimp only at hb hl K4 ⊢
    have M4 := M3.km K4
    have K14 := K3.trans (km_x (x := x) K4)
    cases e2 : lstS V g ts S1 d r with
    | none =>
      rw [e2] at hb
      have hb : b = -1 := hb
      subst hb
      rw [if_pos rfl, Ok_some]
      exact ⟨S1, M4, K14, fun _ => rfl, fun _ => ⟨hS1, hS2⟩, hS6⟩
    | some t =>
      obtain ⟨ht, hat⟩ := bst_ok e2
      have hl := hl t e2
      rw [e2] at hb
      have hb : b = nI t := hb
      subst hb hl
      dsimp only
      rw [if_neg (nI_nm1 (n := t) (by omega)), M4.2.2.2.2.1.1]
      by_cases h4 : tw = 4
      · rw [if_pos h4, Ok_some]
        exact ⟨S1, M4, K14, fun q => absurd h4 q, fun _ => ⟨hS1, hS2⟩, hS6⟩
      · rw [if_neg h4, callsT M4 hd ht (by omega) hat, bd_some, Ok_bd]
        have M5 := M4.km (nmM_km (n := nmT V d t (ts d) g (S1 6 0) (S1 3 r)))
        have hn := nmM_at (μ := ν4) (n := nmT V d t (ts d) g (S1 6 0) (S1 3 r))
        have K5 := K14.trans (km_x (x := x) (nmM_km (μ := ν4) (n := nmT V d t (ts d) g (S1 6 0) (S1 3 r))))
        generalize nmM ν4 (nmT V d t (ts d) g (S1 6 0) (S1 3 r)) = ν5 at M5 hn K5 ⊢
        refine (mwithin M5 (k := 1) (by omega) hn 100 30).mono ?_
        rintro z ν6 ⟨hz, K6⟩
        have M6 := M5.km K6
        have K16 := K5.trans (km_x (x := x) K6)
        have hz : z = brv V d t (ts d) g (S1 6 0) (S1 3 r) := hz
        subst hz
        have t8 : ixo (nI (8 * x + t)) 184 := ixN (by omega) (by omega)
        by_cases hlt : lkS V g ts S1 d t r < brv V d t (ts d) g (S1 6 0) (S1 3 r)
        · rw [if_pos hlt, if_pos hlt, nextToM_eq M6.2.2.1 M.1 (by omega), bd_some]
          have nt : ¬ (tw = 5 ∧ nI t = ti) := by
            intro c
            have hS := M6.2.2.2.1.1 t ht
            rw [if_pos c, hat] at hS
            exact nI_nm1 (n := r) (by omega) hS.symm
          generalize hq : oI (nextS V r) = q
          cases e3 : nextS V r with
          | none =>
            rw [e3] at hq
            have hq : q = -1 := hq.symm
            subst hq
            dsimp only
            simp only [e8x, if_true, gd_t t8, nI_clamp (show 8 * x + t < 2 ^ 31 by omega)]
            rw [Ok_vl, M6.2.2.2.1.2.2.1 t (by omega), Ok_some]
            exact ⟨_, M6.put8 (i := 2) (by omega) (by omega) (by omega) (M3.2.1.put1 (by omega) (by omega) (by omega) (by omega) (by omega)), K16.sI (Or.inr (Or.inr (Or.inl ⟨by omega, by omega, by omega, by omega⟩))), fun _ => rfl, fun q => absurd q h4, by rw [up_ne (by omega)]; exact hS6⟩
          | some c =>
            obtain ⟨hc, -⟩ := fnd_lt e3
            rw [e3] at hq
            have hq : q = nI c := hq.symm
            subst hq
            dsimp only
            simp only [if_neg (nI_nm1 (show c < 2 ^ 31 by omega)), e8x, gd_t t8, nI_clamp (show 8 * x + t < 2 ^ 31 by omega)]
            rw [Ok_vl]
            have M7 : Mrs (sI ν6 206 (8 * x + t) (nI c)) V x (up S1 0 t (nI c)) g ts tw ti := M6.put8 (i := 0) (by omega) (by omega) (fun _ => nt) (M3.2.1.put0 hc)
            have K7 : KX x ν (sI ν6 206 (8 * x + t) (nI c)) := K16.sI (Or.inr (Or.inr (Or.inl ⟨by omega, by omega, by omega, by omega⟩)))
            generalize sI ν6 206 (8 * x + t) (nI c) = ν7 at M7 K7 ⊢
            rw [Ok_vl, M7.2.2.2.1.2.1 t (by omega), up_ne (show ¬ (1 = 0 ∧ t = t) by omega), Ok_some]
            exact ⟨_, M7.put8 (i := 1) (by omega) (by omega) (by omega) (M7.2.1.put1 (by omega) (by omega) (by omega) (by omega) (by omega)), K7.sI (Or.inr (Or.inr (Or.inl ⟨by omega, by omega, by omega, by omega⟩))), fun _ => rfl, fun q => absurd q h4, by rw [up_ne (by omega), up_ne (by omega)]; exact hS6⟩
        · rw [if_neg hlt, if_neg hlt, Ok_some]
          exact ⟨S1, M6, K16, fun _ => rfl, fun _ => ⟨hS1, hS2⟩, hS6⟩
theorem MSt.put3 (H : MSt ν x V S tw ti) (v : Int32) : MSt (sI ν 203 x v) x V (up S 6 0 v) tw ti := by
  obtain ⟨a1, a2, a3, a4, a5, a6, a7⟩ := H
  have f : ∀ c k, ¬ c = 203 → (sI ν 203 x v).1 c k = ν.1 c k := fun c k hc => by rw [sI_i, if_neg (by omega)]
  refine ⟨fun k hk => ?_, fun k hk => ?_, fun k hk => ?_, fun k hk => ?_, fun k hk => ?_, ?_, ?_⟩
  · rw [f _ _ (by omega), up_ne (by omega)]; exact a1 k hk
  · rw [f _ _ (by omega), up_ne (by omega)]; exact a2 k hk
  · rw [f _ _ (by omega), up_ne (by omega)]; exact a3 k hk
  · rw [f _ _ (by omega), up_ne (by omega)]; exact a4 k hk
  · rw [f _ _ (by omega), up_ne (by omega)]; exact a5 k hk
  · rw [f _ _ (by omega), up_ne (by omega)]; exact a6
  · rw [sI_i, if_pos ⟨rfl, rfl⟩, up_at]
/-- a Monday of the reference's: as of the class, but for those who bear all -/
def dayOf (V : HV) (g : Int32) (ts : Nat → Int32) (tw ti : Int32) (S S' : SV) : Prop := (¬ tw = 4 → S' = dayG V g ts (abO tw ti) (alO tw) S) ∧ (tw = 4 → S' 1 = S 1 ∧ S' 2 = S 2) ∧ S' 6 0 = S 6 0 + 1
theorem passes_spec (M : Mrp ν V x S ts tw ti dg) {m : Nat} (hm : S 6 0 = nI m) (hm2 : m + 1 ≤ 16000) : Ok (f_X11_passes 181 (nI x) ν) (fun _ ν' => ∃ S', Mrp ν' V x S' ts tw ti dg ∧ KX x ν ν' ∧ dayOf V (gM V dg S) ts tw ti S S') := by
  have hD6 : V.1 3 ≤ 6 := M.1.2.2.2.1
  have hx := M.2.2.2.2.2
  have hP := M.2.2.2.2.1
  have M0 := M.s
  generalize gM V dg S = g at M0 ⊢
  unfold f_X11_passes
  rw [Ok_bd]
  refine Ok.mono (Q := fun u (q : Int32 × fMem) => ∃ S', Mrs q.2 V x S' g ts tw ti ∧ KX x ν q.2 ∧ (¬ tw = 4 → S' = visN V g ts (comB V g ts (S 6 0) (abO tw ti) (alO tw)) (V.1 3) S) ∧ (tw = 4 → S' 1 = S 1 ∧ S' 2 = S 2) ∧ S' 6 0 = S 6 0) (Ok_lp (V.1 3) (fun i (q : Int32 × fMem) => q.1 = nI i ∧ ∃ S', Mrs q.2 V x S' g ts tw ti ∧ KX x ν q.2 ∧ (¬ tw = 4 → S' = visN V g ts (comB V g ts (S 6 0) (abO tw ti) (alO tw)) i S) ∧ (tw = 4 → S' 1 = S 1 ∧ S' 2 = S 2) ∧ S' 6 0 = S 6 0) (by omega) ⟨rfl, S, M0, Kx.rfl', fun _ => rfl, fun _ => ⟨rfl, rfl⟩, rfl⟩ ?_) ?_
  · rintro i ⟨y, ν1⟩ hi ⟨hy, S1, M1, K1, h1, h2, h3⟩
    dsimp only at hy M1 K1 ⊢
    subst hy
    unfold f_X11_passes_L2
    simp only [Nat.reduceAdd]
    rw [M1.2.2.1.1 3 (by omega)]
    rcases Nat.lt_or_ge i (V.1 3) with q | q
    · rw [if_neg (nI_ge q (by omega)), Ok_bd]
      have un2 : ∀ b : Bool, comB V g ts (S 6 0) (abO tw ti) (alO tw) i = b → visN V g ts (comB V g ts (S 6 0) (abO tw ti) (alO tw)) (i + 1) S = if b = true then visitS V g ts i (visN V g ts (comB V g ts (S 6 0) (abO tw ti) (alO tw)) i S) else visN V g ts (comB V g ts (S 6 0) (abO tw ti) (alO tw)) i S := by
        rintro b rfl; rfl
      refine (doesCome_spec M1 q).mono ?_
      rintro y ν2 ⟨hy, K2⟩
      rw [h3] at hy
      have M2 := M1.km K2
      have K12 := K1.trans (km_x (x := x) K2)
      cases hc : comB V g ts (S 6 0) (abO tw ti) (alO tw) i with
      | false =>
        rw [hc] at hy
        have hy : y = 0 := hy
        subst hy
        rw [if_pos rfl, Ok_vl, nI_1, Ok_some]
        exact Or.inl ⟨rfl, q, rfl, S1, M2, K12, fun w => by rw [un2 false hc]; exact h1 w, h2, h3⟩
      | true =>
        rw [hc] at hy
        have hy : y = 1 := hy
        subst hy
        rw [if_neg (by decide), Ok_bd]
        refine (visits_spec M2 q).mono ?_
        rintro - ν3 ⟨S3, M3, K3, a1, a2, a3⟩
        rw [Ok_vl, nI_1, Ok_some]
        exact Or.inl ⟨rfl, q, rfl, S3, M3, K12.trans K3, fun w => by rw [un2 true hc, a1 w, h1 w]; rfl, fun w => ⟨(a2 w).1.trans (h2 w).1, (a2 w).2.trans (h2 w).2⟩, a3.trans h3⟩
    · rw [if_pos (nI_le q (by omega)), Ok_some]
      have : i = V.1 3 := by omega
      subst this
      exact Or.inr ⟨0, rfl, S1, M1, K1, h1, h2, h3⟩
  · rintro u ⟨y, ν1⟩ ⟨S1, M1, K1, h1, h2, h3⟩
    dsimp only at M1 K1 ⊢
    simp only [Nat.reduceAdd, gd_t (show ixo (nI x) 23 from ixN (by omega) (by omega)), nI_clamp (show x < 2 ^ 31 by omega)]
    rw [Ok_vl, M1.2.2.2.1.2.2.2.2.2.2, Ok_some, h3, hm, nI_1]
    have e : ∀ k j, ¬ k = 203 → (sI ν1 203 x (nI (m + 1))).1 k j = ν1.1 k j := fun k j hk => by rw [sI_i, if_neg (by omega)]
    have KP : MP ν1 V ts tw ti dg := hP.of (fun j a b => K1.2.1 181 j (by unfold AX Px; omega))
    refine ⟨up S1 6 0 (nI (m + 1)), ⟨M.1, M1.2.1.put6 hm2, M1.2.2.1.of M.1 (fun c a b j _ => e c j (by omega)), M1.2.2.2.1.put3 _, KP.of (fun j _ _ => e 181 j (by omega)), hx⟩, K1.sI (Or.inr (Or.inl ⟨by omega, by omega, rfl⟩)), fun w => ?_, fun w => ⟨?_, ?_⟩, by rw [up_at, hm, nI_1]⟩
    · rw [h1 w]
      unfold dayG
      dsimp only
      rw [visN_hi V g ts _ _ (by omega), hm, nI_1]
    · rw [← (h2 w).1]; funext j; rw [up_ne (by omega)]
    · rw [← (h2 w).2]; funext j; rw [up_ne (by omega)]
theorem goesOn_spec (M : Mrp ν V 1 S ts tw ti (-1)) {m n : Nat} (hm : S 6 0 = nI m) (hn : n ≤ 200) (hmn : m + n ≤ 16000) : Ok (f_X11_goesOn 181 (nI n) ν) (fun _ ν' => ∃ S', Mrp ν' V 1 S' ts tw ti (-1) ∧ KX 1 ν ν' ∧ (¬ tw = 4 → S' = (passS V ts (abO tw ti) (alO tw) 0 n (S, 0)).1) ∧ (tw = 4 → S' 1 = S 1 ∧ S' 2 = S 2)) := by
  unfold f_X11_goesOn
  rw [Ok_bd]
  refine Ok.mono (Q := fun u (q : Int32 × fMem) => ∃ S', Mrp q.2 V 1 S' ts tw ti (-1) ∧ KX 1 ν q.2 ∧ (¬ tw = 4 → S' = (passS V ts (abO tw ti) (alO tw) 0 n (S, 0)).1) ∧ (tw = 4 → S' 1 = S 1 ∧ S' 2 = S 2)) (Ok_lp n (fun i (q : Int32 × fMem) => q.1 = nI i ∧ ∃ S', Mrp q.2 V 1 S' ts tw ti (-1) ∧ KX 1 ν q.2 ∧ (¬ tw = 4 → S' = (passS V ts (abO tw ti) (alO tw) 0 i (S, 0)).1) ∧ (tw = 4 → S' 1 = S 1 ∧ S' 2 = S 2) ∧ S' 6 0 = nI (m + i)) (by omega) ⟨rfl, S, M, Kx.rfl', fun _ => rfl, fun _ => ⟨rfl, rfl⟩, hm⟩ ?_) ?_
  · rintro i ⟨y, ν1⟩ hi ⟨hy, S1, M1, K1, h1, h2, h3⟩
    dsimp only at hy M1 K1 ⊢
    subst hy
    unfold f_X11_goesOn_L2
    rcases Nat.lt_or_ge i n with q | q
    · rw [if_neg (nI_ge q (by omega)), Ok_bd]
      refine (passes_spec M1 h3 (by omega)).mono ?_
      rintro - ν2 ⟨S2, M2, K2, a1, a2, a3⟩
      rw [Ok_vl, nI_1, Ok_some]
      refine Or.inl ⟨rfl, q, rfl, S2, M2, K1.trans K2, fun w => ?_, fun w => ⟨(a2 w).1.trans (h2 w).1, (a2 w).2.trans (h2 w).2⟩, by rw [a3, h3, nI_1]; rfl⟩
      have e : passS V ts (abO tw ti) (alO tw) 0 (i + 1) (S, 0) = dayS V ts (abO tw ti) (alO tw) 0 (passS V ts (abO tw ti) (alO tw) 0 i (S, 0)) := rfl
      rw [a1 w, h1 w, e]
      unfold dayS gOf gM
      rw [if_pos rfl, if_pos rfl]
    · rw [if_pos (nI_le q (by omega)), Ok_some]
      have : i = n := by omega
      subst this
      exact Or.inr ⟨0, rfl, S1, M1, K1, h1, h2⟩
  · rintro u ⟨y, ν1⟩ h
    exact Ok_some.mpr h
end Ref3
