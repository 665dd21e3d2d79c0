/-! tickets, Mondays by chance, Mondays tried otherwise -/
section Sim10
theorem KE.s {μ : fMem} {k j : Nat} {v : Int32} (h : (78 ≤ k ∧ k < 123) ∨ k = 129 ∨ 134 ≤ k) : KE μ (sI μ k j v) := KE.kp (A := [k]) (B := []) (Kp.rfl'.sI (List.mem_singleton.mpr rfl)) (fun k' hk => by rw [List.mem_singleton] at hk; subst hk; exact h)
theorem Crs.crp2 {μ μ' : fMem} {V : HV} {h s : Nat} {S S' : SV} {g : Int32} {ts : Nat → Int32} {ab al dr : Int32} {k : Nat} (C : Crs μ V h s S g ts) (P : CP μ' V h s ts ab al dr k) (hw : SW V S') (cH : CH μ' h V) (cS : CS μ' s V S') (cc : CC μ' V) : Crp μ' V h s S' ts ab al dr k := ⟨C.1, hw, cH, cS, P, cc⟩
def cmN (V : HV) (m : Nat) : Nat := cnt (comB V (glassS V (nI m)) (V.2.1 3) (nI m) (-1) 0) (V.1 3)
def tkN (V : HV) (m : Nat) : Nat → Nat
  | 0 => 0
  | k + 1 => max (tkN V m k) (cmN V (m + k))
theorem cnt_le (p : Nat → Bool) : ∀ n, cnt p n ≤ n
  | 0 => Nat.le_refl _
  | n + 1 => by
    unfold cnt
    have := cnt_le p n
    split <;> omega
theorem imx_nI {a b : Nat} (ha : a < 2 ^ 31) (hb : b < 2 ^ 31) : imx (nI a) (nI b) = nI (max a b) := by
  unfold imx
  by_cases c : a < b
  · rw [if_pos (nI_lt c hb), show max a b = b by omega]
  · rw [if_neg (nI_nlt (by omega) ha), show max a b = a by omega]
theorem tkN_le {V : HV} (hV : HW V) (m : Nat) : ∀ k, tkN V m k ≤ 6
  | 0 => by unfold tkN; omega
  | k + 1 => by
    have h6 : V.1 3 ≤ 6 := hV.2.2.2.1
    have h1 := tkN_le hV m k
    have h2 := cnt_le (comB V (glassS V (nI (m + k))) (V.2.1 3) (nI (m + k)) (-1) 0) (V.1 3)
    unfold tkN cmN
    omega
theorem tkM_in {ν : fMem} {V : HV} {S : SV} {g : Int32} {ts : Nat → Int32} (M : Mrs ν V 1 S g ts 0 (-1)) (v1 v2 v3 : Int32) : Ok (lpn (fun (q : Int32 × Int32 × fMem) => f_X11_tickets_L39 181 v1 v2 v3 q.1 q.2.1 q.2.2) fuel ((0 : Int32), (0 : Int32), ν)) (fun _ q => q.1 = nI (cnt (comB V g ts (S 6 0) (-1) 0) (V.1 3)) ∧ ∃ S', Mrs q.2.2 V 1 S' g ts 0 (-1) ∧ KX 1 ν q.2.2 ∧ S' 6 0 = S 6 0) := by
  have h6 : V.1 3 ≤ 6 := M.1.2.2.2.1
  refine Ok_lp (V.1 3) (fun i (q : Int32 × Int32 × fMem) => q.2.1 = nI i ∧ q.1 = nI (cnt (comB V g ts (S 6 0) (-1) 0) i) ∧ ∃ S', Mrs q.2.2 V 1 S' g ts 0 (-1) ∧ KX 1 ν q.2.2 ∧ S' 6 0 = S 6 0) (by omega) ⟨rfl, rfl, S, M, Kx.rfl', rfl⟩ ?_
  rintro i ⟨b, z, ν1⟩ hi ⟨hz, hb, S1, M1, K1, e1⟩
  dsimp only at hz hb M1 K1 ⊢
  subst hz hb
  unfold f_X11_tickets_L39
  simp only [Nat.reduceAdd]
  rw [M1.2.2.1.1 3 (by omega)]
  rcases Nat.lt_or_ge i (V.1 3) with q | q
  · rw [if_neg (nI_ge q (by omega)), Ok_bd]
    refine (doesCome_spec M1 q).mono ?_
    rintro y ν2 ⟨hy, K2⟩
    rw [e1, abO_0, alO_0] at hy
    have M2 := M1.km K2
    have K12 := K1.trans (km_x (x := 1) K2)
    have un : ∀ b : Bool, comB V g ts (S 6 0) (-1) 0 i = b → cnt (comB V g ts (S 6 0) (-1) 0) (i + 1) = if b = true then cnt (comB V g ts (S 6 0) (-1) 0) i + 1 else cnt (comB V g ts (S 6 0) (-1) 0) i := by
      rintro b rfl; rfl
    cases hc : comB V g ts (S 6 0) (-1) 0 i with
    | false =>
      rw [hc] at hy
      have hy : y = 0 := hy
      subst hy
      rw [if_pos rfl, Ok_vl, nI_1, Ok_some]
      exact Or.inl ⟨rfl, q, rfl, by rw [un false hc, if_neg (by decide)], S1, M2, K12, e1⟩
    | true =>
      rw [hc] at hy
      have hy : y = 1 := hy
      subst hy
      rw [if_neg (by decide), Ok_vl, Ok_bd]
      refine (visits_spec M2 q).mono ?_
      rintro - ν3 ⟨S3, M3, K3, a1, a2, a3⟩
      rw [Ok_vl, nI_1, nI_1, Ok_some]
      exact Or.inl ⟨rfl, q, rfl, by rw [un true hc, if_pos rfl], S3, M3, K12.trans K3, a3.trans e1⟩
  · rw [if_pos (nI_le q (by omega)), Ok_some]
    have : i = V.1 3 := by omega
    subst this
    exact Or.inr ⟨0, rfl, rfl, S1, M1, K1, e1⟩
theorem sim_tickets (a : Int32) : Sim Rel (f_X10_tickets 0 a) (f_X11_tickets 181 a) := by
  refine simQ fun μ ν V S X h hV hS hX C M => ?_
  have cc := C.2.2.2.2.2.1
  have h6 : V.1 3 ≤ 6 := hV.2.2.2.1
  obtain ⟨m, hm, em⟩ := hS.2.1
  by_cases a1 : a < 1
  · refine ⟨-1, ?_, ?_⟩
    · unfold f_X10_tickets; rw [if_pos a1]; exact qc_some cc
    · unfold f_X11_tickets
      refine qm_th hV hX M fun ν1 K M => ?_
      rw [if_pos a1]; exact qm_some K
  by_cases a99 : a ≤ 99
  rotate_left
  · refine ⟨-1, ?_, ?_⟩
    · unfold f_X10_tickets; rw [if_neg a1, if_neg a99]; exact qc_some cc
    · unfold f_X11_tickets
      refine qm_th hV hX M fun ν1 K M => ?_
      rw [if_neg a1, if_neg a99]; exact qm_some K
  obtain ⟨n, hn, rfl⟩ := nI_of2 (x := a) (M := 99) (n := 99) (by decide) (fun q => a1 (Int32.lt_trans q (by decide))) a99
  refine ⟨nI (tkN V m n), ?_, ?_⟩
  · unfold f_X10_tickets
    rw [if_neg a1, if_pos a99]
    refine Ok_bd.mpr ((try_spec hV hS C).mono ?_)
    rintro - μ1 ⟨C1, P1, K1, e0, e1⟩
    rw [Ok_bd]
    refine Ok.mono (Q := fun u (q : Int32 × Int32 × fMem) => q.1 = nI (tkN V m n) ∧ KE μ1 q.2.2 ∧ CC q.2.2 V) (Ok_lp n (fun i (q : Int32 × Int32 × fMem) => q.2.1 = nI i ∧ q.1 = nI (tkN V m i) ∧ KE μ1 q.2.2 ∧ Crp q.2.2 V h 78 (up S 6 0 (nI (m + i))) (V.2.1 3) (-1) 0 0 0) (by omega) ⟨rfl, rfl, KE.rfl', by rw [Nat.add_zero, ← em, up_self]; exact C1.crp P1⟩ ?_) ?_
    · rintro i ⟨b, z, μ2⟩ hi ⟨hz, hb, K2, C2⟩
      dsimp only at hz hb K2 C2 ⊢
      subst hz hb
      unfold f_X10_tickets_L21
      simp only [Nat.reduceAdd]
      rcases Nat.lt_or_ge i n with q | q
      · rw [if_neg (nI_ge q (by omega)), Ok_bd]
        refine (look_spec C2).mono ?_
        rintro - μ3 ⟨C3, P3, K3, m3, t3⟩
        have e3 : gOf V 0 (up S 6 0 (nI (m + i))) 0 = glassS V (nI (m + i)) := by unfold gOf; rw [if_pos rfl, up_at]
        rw [e3] at C3
        rw [Ok_bd]
        refine (comers_spec C3 P3.2.2.2.2.2.1 P3.2.2.2.2.2.2.1).mono ?_
        rintro x μ4 ⟨rfl, K4⟩
        have C4 := K4.crs C3
        rw [up_at, bitCount_or _ (show V.1 3 ≤ 8 by omega), bd_some, bcS_or _ (show V.1 3 ≤ 8 by omega), Ok_vl, show imx (nI (tkN V m i)) (nI (cnt (comB V (glassS V (nI (m + i))) (V.2.1 3) (nI (m + i)) (-1) 0) (V.1 3))) = nI (tkN V m (i + 1)) from imx_nI (by have := tkN_le hV m i; omega) (by have := cnt_le (comB V (glassS V (nI (m + i))) (V.2.1 3) (nI (m + i)) (-1) 0) (V.1 3); omega), C4.2.2.2.1.2.2.2.2.2.2.1, up_at, nI_1, Ok_vl, Ok_vl, nI_1, Ok_some]
        have zf : ∀ c, ¬ c = 78 → (sI μ4 78 6 (nI (m + i + 1))).1 c = μ4.1 c := fun c hc => by funext j; rw [sI_i, if_neg (by omega)]
        have s4 : SW V (up S 6 0 (nI (m + (i + 1)))) := hS.w.put6 (by omega)
        have hh := C2.2.2.2.2.1.1
        have c4 := C4.2.2.2.1.put6 (nI (m + i + 1))
        rw [up_up] at c4
        have P4 : CP μ4 V h 78 (V.2.1 3) (-1) 0 0 0 := by
          have := P3.of (μ' := μ4) (fun j _ _ => by rw [K4.1.2.1 84 (by decide)]) (by rw [K4.1.2.2 84 (by decide)]) K4.1.1
          rw [if_pos rfl] at this
          exact this
        refine Or.inl ⟨rfl, q, rfl, rfl, ((K2.trans (KE.kp K3 (fun k hk => by rw [List.mem_singleton] at hk; omega))).trans K4.e).trans (KE.s (by omega)), C4.1, s4, C4.2.2.1.of fun c a b => zf c (by rcases hh with rfl | rfl <;> omega), c4, P4.of (fun j _ _ => by rw [zf 84 (by omega)]) rfl rfl, C4.2.2.2.2.2.of (zf 122 (by omega)) rfl⟩
      · rw [if_pos (nI_le q (by omega)), Ok_some]
        have : i = n := by omega
        subst this
        exact Or.inr ⟨0, rfl, rfl, K2, C2.2.2.2.2.2⟩
    · rintro u ⟨b, z, μ2⟩ ⟨hb, K2, c2⟩
      exact Ok_some.mpr ⟨hb, K1.trans K2, c2⟩
  · unfold f_X11_tickets
    refine qm_th hV hX M fun ν1 K M => ?_
    rw [if_neg a1, if_pos a99]
    refine Ok_bd.mpr ((copyM hV hS hX M).mono ?_)
    rintro - ν2 ⟨P2, K2, M2⟩
    rw [Ok_bd]
    refine Ok.mono (Q := fun u (q : Int32 × Int32 × fMem) => q.1 = nI (tkN V m n) ∧ KX 1 ν2 q.2.2) (Ok_lp n (fun i (q : Int32 × Int32 × fMem) => q.2.1 = nI i ∧ q.1 = nI (tkN V m i) ∧ KX 1 ν2 q.2.2 ∧ ∃ S', Mrp q.2.2 V 1 S' (V.2.1 3) 0 (-1) (-1) ∧ S' 6 0 = nI (m + i)) (by omega) ⟨rfl, rfl, Kx.rfl', S, P2, em⟩ ?_) ?_
    · rintro i ⟨b, z, ν3⟩ hi ⟨hz, hb, K3, S3, P3, e3⟩
      dsimp only at hz hb K3 P3 ⊢
      subst hz hb
      unfold f_X11_tickets_L28
      simp only [Nat.reduceAdd]
      rcases Nat.lt_or_ge i n with q | q
      · rw [if_neg (nI_ge q (by omega)), Ok_bd]
        have M3 := P3.s
        have eg : gM V (-1) S3 = glassS V (nI (m + i)) := by unfold gM; rw [if_pos rfl, e3]
        rw [eg] at M3
        refine (tkM_in M3 (nI n) (nI (tkN V m i)) (nI i)).mono ?_
        rintro u ⟨x, y, ν4⟩ ⟨hx, S4, M4, K4, e4⟩
        dsimp only at hx M4 K4 ⊢
        subst hx
        rw [e3] at e4 ⊢
        rw [Ok_vl, M4.2.2.2.1.2.2.2.2.2.2, e4, nI_1, Ok_vl, show imx (nI (tkN V m i)) (nI (cnt (comB V (glassS V (nI (m + i))) (V.2.1 3) (nI (m + i)) (-1) 0) (V.1 3))) = nI (tkN V m (i + 1)) from imx_nI (by have := tkN_le hV m i; omega) (by have := cnt_le (comB V (glassS V (nI (m + i))) (V.2.1 3) (nI (m + i)) (-1) 0) (V.1 3); omega), Ok_vl, nI_1, Ok_some]
        have zz : ∀ k j, ¬ k = 203 → (sI ν4 203 1 (nI (m + i + 1))).1 k j = ν4.1 k j := fun k j hk => by rw [sI_i, if_neg (by omega)]
        have KP : MP ν4 V (V.2.1 3) 0 (-1) (-1) := P3.2.2.2.2.1.of (fun j a b => K4.2.1 181 j (by unfold AX Px; omega))
        exact Or.inl ⟨rfl, q, rfl, rfl, (K3.trans K4).sI (Or.inr (Or.inl ⟨by omega, by omega, rfl⟩)), up S4 6 0 (nI (m + i + 1)), ⟨hV, M4.2.1.put6 (by omega), M4.2.2.1.of hV (fun c a b j _ => zz c j (by omega)), M4.2.2.2.1.put3 _, KP.of (fun j _ _ => zz 181 j (by omega)), by omega⟩, by rw [up_at]; rfl⟩
      · rw [if_pos (nI_le q (by omega)), Ok_some]
        have : i = n := by omega
        subst this
        exact Or.inr ⟨0, rfl, rfl, K3⟩
    · rintro u ⟨b, z, ν3⟩ ⟨hb, K3⟩
      exact Ok_some.mpr ⟨hb, K.trans (K2.trans K3.r)⟩
/-- ten times by chance: how often there, the last number -/
def chS (V : HV) (S : SV) (n t : Nat) (r : Int32) (k : Nat) : Nat → Nat × Nat
  | 0 => (0, k)
  | i + 1 => let q := chS V S n t r k i
    let p := passS V (V.2.1 3) (-1) 0 1 n (S, q.2)
    (if p.1 0 t = r then q.1 + 1 else q.1, p.2)
theorem passS_k {V : HV} {ts : Nat → Int32} {ab al : Int32} {S : SV} {k : Nat} (hk : k < 2 ^ 31) : ∀ n, (passS V ts ab al 1 n (S, k)).2 < 2 ^ 31
  | 0 => hk
  | n + 1 => by
    show (dayS V ts ab al 1 (passS V ts ab al 1 n (S, k))).2 < 2 ^ 31
    unfold dayS
    dsimp only
    rw [if_neg (by decide)]
    exact nx_lt _
theorem chS_k {V : HV} {S : SV} {n t : Nat} {r : Int32} {k : Nat} (hk : k < 2 ^ 31) : ∀ i, (chS V S n t r k i).2 < 2 ^ 31
  | 0 => hk
  | i + 1 => passS_k (chS_k hk i) n
theorem chM_in {ν : fMem} {V : HV} {S : SV} {n m k : Nat} (hn : n ≤ 60) (hm : S 6 0 = nI m) (hmn : m ≤ 9900) (M : Mrp ν V 1 S (V.2.1 3) 0 (-1) (-1)) (v3 v4 v6 v7 : Int32) : Ok (lpn (fun (q : Int32 × Int32 × fMem) => f_X11_chance_L64 181 (nI n) v3 v4 v6 v7 q.1 q.2.1 q.2.2) fuel (nI k, (0 : Int32), ν)) (fun _ q => q.1 = nI (passS V (V.2.1 3) (-1) 0 1 n (S, k)).2 ∧ MSt q.2.2 1 V (passS V (V.2.1 3) (-1) 0 1 n (S, k)).1 0 (-1) ∧ Kx (fun c j => AX 1 c j ∨ (c = 181 ∧ j = 49)) B0 ν q.2.2) := by
  have hV := M.1
  refine Ok.mono (Q := fun u (q : Int32 × Int32 × fMem) => q.1 = nI (passS V (V.2.1 3) (-1) 0 1 n (S, k)).2 ∧ (∃ dg, Mrp q.2.2 V 1 (passS V (V.2.1 3) (-1) 0 1 n (S, k)).1 (V.2.1 3) 0 (-1) dg) ∧ Kx (fun c j => AX 1 c j ∨ (c = 181 ∧ j = 49)) B0 ν q.2.2) (Ok_lp n (fun i (q : Int32 × Int32 × fMem) => q.2.1 = nI i ∧ q.1 = nI (passS V (V.2.1 3) (-1) 0 1 i (S, k)).2 ∧ (∃ dg, Mrp q.2.2 V 1 (passS V (V.2.1 3) (-1) 0 1 i (S, k)).1 (V.2.1 3) 0 (-1) dg) ∧ Kx (fun c j => AX 1 c j ∨ (c = 181 ∧ j = 49)) B0 ν q.2.2) (by omega) ⟨rfl, rfl, ⟨-1, M⟩, Kx.rfl'⟩ ?_) ?_
  · rintro i ⟨b, z, ν1⟩ hi ⟨hz, hb, ⟨dg, M1⟩, K1⟩
    dsimp only at hz hb M1 K1 ⊢
    subst hz hb
    unfold f_X11_chance_L64
    rcases Nat.lt_or_ge i n with q | q
    · have e6 := passS_mo V (V.2.1 3) (-1) 0 1 (q := (S, k)) hm i
      have un : passS V (V.2.1 3) (-1) 0 1 (i + 1) (S, k) = dayS V (V.2.1 3) (-1) 0 1 (passS V (V.2.1 3) (-1) 0 1 i (S, k)) := rfl
      rw [un]
      generalize passS V (V.2.1 3) (-1) 0 1 i (S, k) = p at M1 e6 ⊢
      obtain ⟨S1, k1⟩ := p
      dsimp only at M1 e6 ⊢
      rw [if_neg (nI_ge q (by omega)), Ok_vl, draw32, Ok_vl, gauge32 (nx_lt _), Ok_bd]
      have zz : ∀ c j, ¬ (c = 181 ∧ j = 49) → (sI ν1 181 49 (nI (gx (nx k1)))).1 c j = ν1.1 c j := fun c j hc => by rw [sI_i, if_neg hc]
      have M2 : Mrp (sI ν1 181 49 (nI (gx (nx k1)))) V 1 S1 (V.2.1 3) 0 (-1) (nI (gx (nx k1))) := by
        obtain ⟨c1, c2, c3, c4, c5, c6⟩ := M1
        have h8 : V.1 2 ≤ 8 := hV.2.2.1
        refine ⟨c1, c2, c3.of c1 (fun c a b j _ => zz c j (by omega)), c4.of h8 (fun c a b j hj => zz _ _ (by omega)) (fun c a b j hj => zz _ _ (by omega)) (zz _ _ (by omega)) (zz _ _ (by omega)), ⟨?_, ?_, ?_, ?_⟩, c6⟩
        · rw [zz _ _ (by omega)]; exact c5.1
        · rw [zz _ _ (by omega)]; exact c5.2.1
        · rw [zz _ _ (by omega), zz _ _ (by omega)]; exact c5.2.2.1
        · rw [sI_i, if_pos ⟨rfl, rfl⟩]
      refine (passes_spec M2 e6 (by omega)).mono ?_
      rintro - ν3 ⟨S3, P3, K3, a1, a2, a3⟩
      rw [Ok_vl, nI_1, Ok_some]
      have eg : gM V (nI (gx (nx k1))) S1 = nI (gx (nx k1)) := by
        unfold gM
        rw [if_neg (nI_nm1 (by have := gx_le (nx k1); omega))]
      rw [a1 (by decide), abO_0, alO_0, eg] at P3
      have ed : dayS V (V.2.1 3) (-1) 0 1 (S1, k1) = (dayG V (nI (gx (nx k1))) (V.2.1 3) (-1) 0 S1, nx k1) := by
        unfold dayS gOf
        rw [if_neg (by decide), if_neg (by decide)]
      rw [ed]
      exact Or.inl ⟨rfl, q, rfl, rfl, ⟨_, P3⟩, (K1.sI (Or.inr ⟨rfl, rfl⟩)).trans (K3.wide (fun _ _ z => Or.inl z) (fun _ _ z => z))⟩
    · have : i = n := by omega
      subst this
      rw [if_pos (nI_le q (by omega)), Ok_some]
      exact Or.inr ⟨0, rfl, rfl, ⟨dg, M1⟩, K1⟩
  · rintro u ⟨b, z, ν1⟩ ⟨h1, ⟨dg, M1⟩, K1⟩
    exact ⟨h1, M1.2.2.2.1, K1⟩
theorem draw_crp {μ : fMem} {V : HV} {h : Nat} {S : SV} {ts : Nat → Int32} {ab al : Int32} {k k0 : Nat} (C : Crp μ V h 78 S ts ab al 0 k0) (hk : k < 2 ^ 31) : Ok (f_X0_drawFrom 84 (lN k) μ) (fun _ μ' => Crp μ' V h 78 S ts ab al 1 k ∧ KE μ μ' ∧ μ'.1 84 0 = μ.1 84 0) := by
  unfold f_X0_drawFrom
  rw [Ok_vl, Ok_vl, Ok_some]
  obtain ⟨c1, c2, c3, c4, c5, c6⟩ := C
  have hh := c5.1
  have zf : ∀ c, ¬ c = 84 → (sL (sI μ 84 7 1) 84 6 (lN k)).1 c = μ.1 c := fun c hc => by funext j; rw [sL_i, sI_i, if_neg (by omega)]
  have zj : ∀ j, ¬ j = 7 → (sL (sI μ 84 7 1) 84 6 (lN k)).1 84 j = μ.1 84 j := fun j hj => by rw [sL_i, sI_i, if_neg (by omega)]
  obtain ⟨d1, d2, d3, d4, d5, d6, d7, d8, d9⟩ := c5
  refine ⟨⟨c1, c2, c3.of fun c a b => zf c (by rcases hh with rfl | rfl <;> omega), c4.of fun c a b => zf c (by omega), ⟨d1, d2, d3, d4, ?_, ?_, ?_, ?_, fun _ => ⟨?_, hk⟩⟩, c6.of (zf 122 (by omega)) ?_⟩, ?_, zj 0 (by omega)⟩
  · rw [zj 4 (by omega), zj 5 (by omega)]; exact d5
  · rw [zj 2 (by omega)]; exact d6
  · rw [zj 3 (by omega)]; exact d7
  · rw [sL_i, sI_i, if_pos ⟨rfl, rfl⟩]
  · rw [sL_l, if_pos ⟨rfl, rfl⟩]
  · funext j; rw [sL_l, if_neg (by omega)]; rfl
  · exact ⟨fun k h => zf k (by omega), fun _ _ _ => rfl⟩
theorem sim_chance (a b c d : Int32) : Sim Rel (f_X10_chance 0 a b c d) (f_X11_chance 181 a b c d) := by
  refine simQ fun μ ν V S X h hV hS hX C M => ?_
  have cc := C.2.2.2.2.2.1
  have h8 : V.1 2 ≤ 8 := hV.2.2.1
  have h6 : V.1 0 ≤ 6 := hV.1
  obtain ⟨m, hm, em⟩ := hS.2.1
  by_cases a0 : a < 0
  · refine ⟨-1, ?_, ?_⟩
    · unfold f_X10_chance; rw [if_pos a0]; exact qc_some cc
    · unfold f_X11_chance
      refine qm_th hV hX M fun ν1 K M => ?_
      rw [if_pos a0]; exact qm_some K
  by_cases b1 : b < 1
  · refine ⟨-1, ?_, ?_⟩
    · unfold f_X10_chance; rw [if_neg a0, if_pos b1]; exact qc_some cc
    · unfold f_X11_chance
      refine qm_th hV hX M fun ν1 K M => ?_
      rw [if_neg a0, if_pos b1]; exact qm_some K
  by_cases b60 : b ≤ 60
  rotate_left
  · refine ⟨-1, ?_, ?_⟩
    · unfold f_X10_chance; rw [if_neg a0, if_neg b1, if_neg b60]; exact qc_some cc
    · unfold f_X11_chance
      refine qm_th hV hX M fun ν1 K M => ?_
      rw [if_neg a0, if_neg b1, if_pos (Int32.not_le.mp b60)]; exact qm_some K
  by_cases ct : hs (V.1 2) c
  rotate_left
  · refine ⟨-1, ?_, ?_⟩
    · unfold f_X10_chance
      rw [if_neg a0, if_neg b1, if_pos b60]
      refine qc_h C ?_
      rw [has2 C.2.2.2.1, bd_some, if_neg ct, if_pos rfl]; exact qc_some cc
    · unfold f_X11_chance
      refine qm_th hV hX M fun ν1 K M => ?_
      rw [if_neg a0, if_neg b1, if_neg (Int32.not_lt.mpr b60), isThing_eq M.1, bd_some, if_neg ct, if_pos rfl]; exact qm_some K
  by_cases cd : hs (V.1 0) d
  rotate_left
  · refine ⟨-1, ?_, ?_⟩
    · unfold f_X10_chance
      rw [if_neg a0, if_neg b1, if_pos b60]
      refine qc_h C ?_
      rw [has2 C.2.2.2.1, bd_some, if_pos ct, if_neg (by decide)]
      refine qc_h C ?_
      rw [has0 C.2.2.2.1, bd_some, if_neg cd, if_pos rfl]; exact qc_some cc
    · unfold f_X11_chance
      refine qm_th hV hX M fun ν1 K M => ?_
      rw [if_neg a0, if_neg b1, if_neg (Int32.not_lt.mpr b60), isThing_eq M.1, bd_some, if_pos ct, if_neg (by decide), isRoom_eq M.1, bd_some, if_neg cd, if_pos rfl]; exact qm_some K
  obtain ⟨t, ht, rfl⟩ := hs_ex ct (by omega)
  obtain ⟨k, hk, rfl⟩ := nI_of a0
  obtain ⟨n, hn, rfl⟩ := nI_of2 (x := b) (M := 60) (n := 60) (by decide) (fun q => b1 (Int32.lt_trans q (by decide))) b60
  refine ⟨nI (chS V S n t d k 10).1, ?_, ?_⟩
  · unfold f_X10_chance
    rw [if_neg a0, if_neg b1, if_pos b60]
    refine qc_h C ?_
    rw [has2 C.2.2.2.1, bd_some, if_pos ct, if_neg (by decide)]
    refine qc_h C ?_
    rw [has0 C.2.2.2.1, bd_some, if_pos cd, if_neg (by decide)]
    refine Ok_vl.mpr (Ok_bd.mpr ?_)
    rw [nI_l hk]
    refine Ok.mono (Q := fun u (q : Int32 × Int64 × Int32 × fMem) => q.1 = nI (chS V S n t d k 10).1 ∧ KE μ q.2.2.2 ∧ CC q.2.2.2 V) (Ok_lp 10 (fun i (q : Int32 × Int64 × Int32 × fMem) => q.2.2.1 = nI i ∧ q.1 = nI (chS V S n t d k i).1 ∧ q.2.1 = lN (chS V S n t d k i).2 ∧ KE μ q.2.2.2 ∧ CC q.2.2.2 V) (by omega) ⟨rfl, rfl, rfl, KE.rfl', cc⟩ ?_) ?_
    · rintro i ⟨x, y, z, μ2⟩ hi ⟨hz, hx, hy, K2, cc2⟩
      dsimp only at hz hx hy K2 cc2 ⊢
      subst hz hx hy
      have R2 := C.ke K2 cc2
      unfold f_X10_chance_L54
      simp only [Nat.reduceAdd]
      rcases Nat.lt_or_ge i 10 with q | q
      · have hk1 := chS_k (V := V) (S := S) (n := n) (t := t) (r := d) hk i
        have un : chS V S n t d k (i + 1) = (if (passS V (V.2.1 3) (-1) 0 1 n (S, (chS V S n t d k i).2)).1 0 t = d then (chS V S n t d k i).1 + 1 else (chS V S n t d k i).1, (passS V (V.2.1 3) (-1) 0 1 n (S, (chS V S n t d k i).2)).2) := rfl
        rw [if_neg (show ¬ 10 ≤ nI i from nI_ge (b := 10) q (by omega)), Ok_bd, un]
        generalize chS V S n t d k i = p at hk1 ⊢
        refine (try_spec hV hS R2).mono ?_
        rintro - μ3 ⟨C3, P3, K3, e0, e1⟩
        rw [Ok_bd]
        refine (draw_crp (C3.crp P3) hk1).mono ?_
        rintro - μ4 ⟨C4, K4, -⟩
        rw [Ok_bd]
        refine (pass_spec C4 (n := n) (by omega) em (by omega)).mono ?_
        rintro - μ5 ⟨C5, K5⟩
        have KK : KE μ μ5 := ((K2.trans K3).trans K4).trans K5.ke
        have l6 := (C5.2.2.2.2.1.2.2.2.2.2.2.2.2 (by decide)).1
        rw [Ok_vl, l6, gd_t (ixN (by omega) (by omega)), nI_clamp (by omega), C5.2.2.2.1.1 t ht]
        by_cases cz : (passS V (V.2.1 3) (-1) 0 1 n (S, p.2)).1 0 t = d
        · rw [if_pos cz, Ok_vl, Ok_vl, nI_1, nI_1, Ok_some]
          refine Or.inl ⟨rfl, q, rfl, ?_, rfl, KK, C5.2.2.2.2.2⟩
          dsimp only; rw [if_pos cz]
        · rw [if_neg cz, Ok_vl, nI_1, Ok_some]
          refine Or.inl ⟨rfl, q, rfl, ?_, rfl, KK, C5.2.2.2.2.2⟩
          dsimp only; rw [if_neg cz]
      · have : i = 10 := by omega
        subst this
        rw [if_pos (show 10 ≤ nI 10 by decide), Ok_some]
        exact Or.inr ⟨0, rfl, rfl, K2, cc2⟩
    · rintro u ⟨x, y, z, μ2⟩ ⟨hx, K2, cc2⟩
      exact Ok_some.mpr ⟨hx, K2, cc2⟩
  · unfold f_X11_chance
    refine qm_th hV hX M fun ν1 K M => ?_
    rw [if_neg a0, if_neg b1, if_neg (Int32.not_lt.mpr b60), isThing_eq M.1, bd_some, if_pos ct, if_neg (by decide), isRoom_eq M.1, bd_some, if_pos cd, if_neg (by decide)]
    refine Ok_bd.mpr ?_
    refine Ok.mono (Q := fun u (q : Int32 × Int32 × Int32 × fMem) => q.2.1 = nI (chS V S n t d k 10).1 ∧ KR ν1 q.2.2.2) (Ok_lp 10 (fun i (q : Int32 × Int32 × Int32 × fMem) => q.2.2.1 = nI i ∧ q.1 = nI (chS V S n t d k i).2 ∧ q.2.1 = nI (chS V S n t d k i).1 ∧ KR ν1 q.2.2.2) (by omega) ⟨rfl, rfl, rfl, Kx.rfl'⟩ ?_) ?_
    · rintro i ⟨x, y, z, ν2⟩ hi ⟨hz, hx, hy, K2⟩
      dsimp only at hz hx hy K2 ⊢
      subst hz hx hy
      have M2 := M.kr hV hX K2
      unfold f_X11_chance_L48
      simp only [Nat.reduceAdd]
      rcases Nat.lt_or_ge i 10 with q | q
      · have un : chS V S n t d k (i + 1) = (if (passS V (V.2.1 3) (-1) 0 1 n (S, (chS V S n t d k i).2)).1 0 t = d then (chS V S n t d k i).1 + 1 else (chS V S n t d k i).1, (passS V (V.2.1 3) (-1) 0 1 n (S, (chS V S n t d k i).2)).2) := rfl
        rw [if_neg (show ¬ 10 ≤ nI i from nI_ge (b := 10) q (by omega)), Ok_bd, un]
        generalize chS V S n t d k i = p
        refine (copyM hV hS hX M2).mono ?_
        rintro - ν3 ⟨P3, K3, M3⟩
        rw [Ok_bd]
        refine (chM_in hn em hm P3 (nI t) d (nI p.1) (nI i)).mono ?_
        rintro u ⟨x4, y4, ν4⟩ ⟨hx4, m4, K4⟩
        dsimp only at hx4 m4 K4 ⊢
        subst hx4
        have e := m4.1 t ht
        rw [if_neg (fun z => absurd z.1 (by decide))] at e
        have e2 : (sI ν4 181 49 (-1)).1 206 (8 * 1 + t) = (passS V (V.2.1 3) (-1) 0 1 n (S, p.2)).1 0 t := by rw [sI_i, if_neg (by omega)]; exact e
        have KK : KR ν1 (sI ν4 181 49 (-1)) := by
          have K23 := K2.trans K3
          refine ⟨K4.1.trans K23.1, fun c j hc => ?_, fun c j hc => (K4.2.2 c j hc).trans (K23.2.2 c j hc)⟩
          by_cases q9 : c = 181 ∧ j = 49
          · obtain ⟨rfl, rfl⟩ := q9
            rw [sI_i, if_pos ⟨rfl, rfl⟩]
            exact M.2.2.1.2.2.1.symm
          · rw [sI_i, if_neg q9, K4.2.1 c j (by rintro ((w | w) | w); exact hc (Or.inl ⟨w.1, Or.inr (Or.inl w.2)⟩); exact hc (Or.inr (Or.inl w)); exact q9 w), K23.2.1 c j hc]
        rw [Ok_vl, show (8 : Int32) + nI t = nI (8 * 1 + t) from nI_add 8 t, gd_t (ixN (by omega) (by omega)), nI_clamp (by omega), e2]
        by_cases cz : (passS V (V.2.1 3) (-1) 0 1 n (S, p.2)).1 0 t = d
        · rw [if_pos cz, Ok_vl, Ok_vl, nI_1, nI_1, Ok_some]
          refine Or.inl ⟨rfl, q, rfl, rfl, ?_, KK⟩
          dsimp only; rw [if_pos cz]
        · rw [if_neg cz, Ok_vl, Ok_vl, nI_1, Int32.add_zero, Ok_some]
          refine Or.inl ⟨rfl, q, rfl, rfl, ?_, KK⟩
          dsimp only; rw [if_neg cz]
      · have : i = 10 := by omega
        subst this
        rw [if_pos (show 10 ≤ nI 10 by decide), Ok_some]
        exact Or.inr ⟨0, rfl, rfl, K2⟩
    · rintro u ⟨x, y, z, ν2⟩ ⟨hy, K2⟩
      exact Ok_some.mpr ⟨hy, K.trans K2⟩
end Sim10
