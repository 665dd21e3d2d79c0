/-! the hanging all like best, as the reference finds it -/
section Sim21
theorem allSit_spec {ν : fMem} {V : HV} {S : SV} {g : Int32} {ts : Nat → Int32} (M : Mrs ν V 1 S g ts 0 (-1)) : Ok (f_X11_likingWhereAllSit 181 ν) (fun y ν' => y = alS V g ts S ∧ KM ν ν') := by
  have h6 : V.1 3 ≤ 6 := M.1.2.2.2.1
  have h0 : V.1 0 ≤ 6 := M.1.1
  unfold f_X11_likingWhereAllSit
  rw [Ok_bd]
  refine Ok.mono (Q := fun u (q : Int32 × Int32 × fMem) => q.1 = alS V g ts S ∧ KM ν q.2.2) (Ok_lp (V.1 3) (fun i (q : Int32 × Int32 × fMem) => q.2.1 = nI i ∧ q.1 = sumN i (fun d => match seatS V g ts S d with | none => 0 | some r => likeR V g ts S d r) ∧ KM ν q.2.2) (by omega) ⟨rfl, rfl, Kx.rfl'⟩ ?_) ?_
  · rintro i ⟨b, z, ν1⟩ hi ⟨hz, hb, K1⟩
    dsimp only at hz hb K1 ⊢
    subst hz hb
    have M1 := M.km K1
    unfold f_X11_likingWhereAllSit_L4
    simp only [Nat.reduceAdd]
    rw [M1.2.2.1.1 3 (by omega)]
    rcases Nat.lt_or_ge i (V.1 3) with q | q
    · rw [if_neg (nI_ge q (by omega)), Ok_bd]
      have un : ∀ o, seatS V g ts S i = o → sumN (i + 1) (fun d => match seatS V g ts S d with | none => 0 | some r => likeR V g ts S d r) = sumN i (fun d => match seatS V g ts S d with | none => 0 | some r => likeR V g ts S d r) + (match o with | none => 0 | some r => likeR V g ts S i r) := by rintro o rfl; rfl
      refine (seatOf_spec M1 q).mono ?_
      rintro x ν2 ⟨rfl, K2⟩
      have M2 := M1.km K2
      cases hs : seatS V g ts S i with
      | none =>
        rw [if_pos (show oI none = -1 from rfl), Ok_vl, Ok_vl, nI_1, Ok_some]
        exact Or.inl ⟨rfl, q, rfl, by rw [un none hs], K1.trans K2⟩
      | some r =>
        have hr := (bst_ok hs).1
        rw [if_neg (show ¬ oI (some r) = -1 from nI_nm1 (by omega)), Ok_bd]
        refine (likingFor_spec M2 q (show r < 6 by omega)).mono ?_
        rintro y ν3 ⟨rfl, K3⟩
        rw [Ok_vl, Ok_vl, nI_1, Ok_some]
        exact Or.inl ⟨rfl, q, rfl, by rw [un (some r) hs], (K1.trans K2).trans K3⟩
    · rw [if_pos (nI_le q (by omega)), Ok_some]
      have : i = V.1 3 := by omega
      subst this
      exact Or.inr ⟨0, rfl, rfl, K1⟩
  · rintro u ⟨b, z, ν1⟩ h
    exact Ok_some.mpr h
/-- things hung somehow, from the first ones on as chosen -/
def HM (ν : fMem) (V : HV) (S : SV) (t : Nat) (c : Nat → Nat) : Prop := ∃ cc : Nat → Nat, (∀ i, i < frN V → cc i < V.1 0) ∧ (∀ i, i < t → cc i = c i) ∧ MSt ν 1 V (cS V S cc) 0 (-1)
theorem cS_w {V : HV} {S : SV} {cc : Nat → Nat} (hS : SR V S) (hc : ∀ i, i < frN V → cc i < V.1 0) : SW V (cS V S cc) := by
  refine ⟨fun t ht => ?_, ?_, fun k a b => ⟨?_, ?_⟩, fun k a b => ?_⟩
  · unfold cS
    split
    · rename_i w; exact Or.inr ⟨cc t, hc t w.2, rfl⟩
    · exact Or.inr (hS.1 t ht)
  · rw [cS_o (by omega)]; exact hS.w.2.1
  · rw [cS_o (by omega)]; exact (hS.2.2.1 k a b).1
  · rw [cS_o (by omega)]; exact (hS.2.2.1 k a b).2
  · rw [cS_o (by omega)]; exact hS.2.2.2 k a b
theorem cS_congr {V : HV} {S : SV} {c c' : Nat → Nat} (h : ∀ i, i < frN V → c i = c' i) : cS V S c = cS V S c' := by
  funext i j
  unfold cS
  by_cases q : i = 0 ∧ j < frN V
  · rw [if_pos q, if_pos q, h j q.2]
  · rw [if_neg q, if_neg q]
theorem cS_up {V : HV} {S : SV} {c : Nat → Nat} {t r : Nat} (ht : t < frN V) : up (cS V S c) 0 t (nI r) = cS V S (updc c t r) := by
  funext i j
  unfold up cS updc
  by_cases q : i = 0 ∧ j = t
  · rw [if_pos q, if_pos ⟨q.1, by omega⟩, if_pos q.2]
  · rw [if_neg q]
    by_cases q2 : i = 0 ∧ j < frN V
    · rw [if_pos q2, if_pos q2, if_neg (fun w => q ⟨q2.1, w⟩)]
    · rw [if_neg q2, if_neg q2]
theorem HM.of {ν ν' : fMem} {V : HV} {S : SV} {t : Nat} {c : Nat → Nat} (h8 : V.1 2 ≤ 8) (H : HM ν V S t c) (e : ∀ k j, Px 1 k j → ν'.1 k j = ν.1 k j) : HM ν' V S t c := by
  obtain ⟨cc, h1, h2, h3⟩ := H
  exact ⟨cc, h1, h2, h3.of h8 (fun c a b j hj => e _ _ (by unfold Px; omega)) (fun c a b j hj => e _ _ (by unfold Px; omega)) (e _ _ (by unfold Px; omega)) (e _ _ (by unfold Px; omega))⟩
theorem leafM {ν : fMem} {V : HV} {S : SV} {X : RX} (hV : HW V) (hS : SR V S) (hX : XW V X) (M : RM ν V S X) {c : Nat → Nat} {a : Ac} (H : HM ν V S (frN V) c) (A : AccR (ν.1 181 53) (ν.1 211) (frN V) a) (Fr : Nat → Int32 → Int32 → fMem → Option (Unit × fMem)) : Ok (f_X11_hangs_b Fr 181 (nI (frN V)) (nI (frN V)) ν) (fun _ ν' => HM ν' V S (frN V) c ∧ AccR (ν'.1 181 53) (ν'.1 211) (frN V) (leafA (lvN V (glassS V (S 6 0)) (V.2.1 3) S) c a) ∧ KR ν ν') := by
  have h8 : V.1 2 ≤ 8 := hV.2.2.1
  have hF4 : frN V ≤ 4 := by unfold frN; omega
  have hts : ∀ d, d < V.1 3 → Upto 9 (V.2.1 3 d) := fun d hd => (hV.2.2.2.2.2.2.2.1 d hd).1
  obtain ⟨cc, h1, h2, h3⟩ := H
  have ec : cS V S cc = cS V S c := cS_congr h2
  have hc : ∀ i, i < frN V → c i < V.1 0 := fun i hi => by rw [← h2 i hi]; exact h1 i hi
  have Ms : Mrs ν V 1 (cS V S c) (glassS V (S 6 0)) (V.2.1 3) 0 (-1) := by
    have P : Mrp ν V 1 (cS V S c) (V.2.1 3) 0 (-1) (-1) := ⟨hV, cS_w hS hc, M.1, ec ▸ h3, (M.mrp hV hS).2.2.2.2.1, by omega⟩
    have := P.s
    unfold gM at this
    rw [if_pos rfl, cS_o (by omega)] at this
    exact this
  have lv := lvN_le (g := glassS V (S 6 0)) (S := S) hV hts c
  unfold f_X11_hangs_b
  rw [if_pos (nI_le (Nat.le_refl _) (by omega)), Ok_bd]
  refine (allSit_spec Ms).mono ?_
  rintro y ν1 ⟨rfl, K1⟩
  rw [al_c hV hts hc]
  have KR1 := KM.r K1
  have H1 : HM ν1 V S (frN V) c := HM.of h8 ⟨cc, h1, h2, h3⟩ (fun k j q => K1.2.1 k j (by unfold Px at q; omega))
  have A1 : AccR (ν1.1 181 53) (ν1.1 211) (frN V) a := by
    rw [K1.2.1 181 53 (by omega), show ν1.1 211 = ν.1 211 by funext j; exact K1.2.1 _ _ (by omega)]; exact A
  have at1 : ∀ i, i < frN V → ν1.1 206 (8 * 1 + i) = nI (c i) := fun i hi => by
    have hi2 : i < V.1 2 := by unfold frN at hi; omega
    have := h3.1 i hi2
    rw [if_neg (fun z => absurd z.1 (by decide)), ec] at this
    rw [K1.2.1 _ _ (by omega), this]
    exact if_pos ⟨rfl, hi⟩
  have up : Ok (vl (sI ν1 181 53 (nI (lvN V (glassS V (S 6 0)) (V.2.1 3) S c))) fun μ6 => bd (lpn (fun (q : Int32 × fMem) => f_X11_hangs_L64 Fr 181 (nI (frN V)) q.1 q.2) fuel ((0 : Int32), μ6)) fun t12 q13 => (fun (x14 : Int32) (μ15 : fMem) => some ((), μ15)) q13.1 q13.2) (fun _ ν' => HM ν' V S (frN V) c ∧ AccR (ν'.1 181 53) (ν'.1 211) (frN V) (some (lvN V (glassS V (S 6 0)) (V.2.1 3) S c, c)) ∧ KR ν ν') := by
    rw [Ok_vl, Ok_bd]
    generalize hlv : lvN V (glassS V (S 6 0)) (V.2.1 3) S c = L
    rw [hlv] at lv
    refine Ok.mono (Q := fun u (q : Int32 × fMem) => Kx (fun k _ => k = 211) BN (sI ν1 181 53 (nI L)) q.2 ∧ ∀ j, j < frN V → q.2.1 211 j = nI (c j)) (Ok_lp (frN V) (fun i (q : Int32 × fMem) => q.1 = nI i ∧ Kx (fun k _ => k = 211) BN (sI ν1 181 53 (nI L)) q.2 ∧ ∀ j, j < i → q.2.1 211 j = nI (c j)) (by omega) ⟨rfl, Kx.rfl', fun j hj => by omega⟩ ?_) ?_
    · rintro i ⟨z, ν2⟩ hi ⟨hz, K2, e2⟩
      dsimp only at hz K2 e2 ⊢
      subst hz
      unfold f_X11_hangs_L64
      simp only [Nat.reduceAdd]
      rcases Nat.lt_or_ge i (frN V) with q | q
      · rw [if_neg (nI_ge q (by omega)), show (8 : Int32) + nI i = nI (8 * 1 + i) from nI_add 8 i, gd_t (ixN (by omega) (by omega)), gd_t (ixN (by omega) (by omega)), nI_clamp (by omega), nI_clamp (by omega), K2.2.1 206 _ (by omega), sI_i, if_neg (by omega), at1 i q, Ok_vl, Ok_vl, nI_1, Ok_some]
        refine Or.inl ⟨rfl, q, rfl, K2.sI rfl, fun j hj => ?_⟩
        dsimp only
        rw [sI_i]
        by_cases e : j = i
        · rw [if_pos ⟨rfl, e⟩, e]
        · rw [if_neg (fun w => e w.2)]; exact e2 j (by omega)
      · rw [if_pos (nI_le q (by omega)), Ok_some]
        have : i = frN V := by omega
        subst this
        exact Or.inr ⟨0, rfl, K2, e2⟩
    · rintro u ⟨z, ν2⟩ ⟨K2, e2⟩
      dsimp only at K2 e2 ⊢
      rw [Ok_some]
      refine ⟨H1.of h8 (fun k j q => by rw [K2.2.1 k j (by unfold Px at q; omega), sI_i, if_neg (by unfold Px at q; omega)]), ⟨by rw [K2.2.1 181 53 (by omega), sI_i, if_pos ⟨rfl, rfl⟩], by omega, e2⟩, ?_⟩
      exact (KR1.sI (Or.inl ⟨rfl, Or.inr (Or.inr rfl)⟩)).trans (K2.wide (fun k j z => Or.inr (Or.inr (Or.inl (by omega)))) (fun _ _ z => absurd z id))
  cases a with
  | none =>
    have A1 : ν1.1 181 53 = -1 := A1
    rw [A1, if_pos (Int32.lt_of_lt_of_le (show (-1 : Int32) < 0 by decide) (nI_pos' (by omega)))]
    exact up
  | some p =>
    obtain ⟨a1, a2, a3⟩ := A1
    rw [a1]
    have ul : leafA (lvN V (glassS V (S 6 0)) (V.2.1 3) S) c (some p) = if p.1 < lvN V (glassS V (S 6 0)) (V.2.1 3) S c then some (lvN V (glassS V (S 6 0)) (V.2.1 3) S c, c) else some p := rfl
    rw [ul]
    by_cases cl : p.1 < lvN V (glassS V (S 6 0)) (V.2.1 3) S c
    · rw [if_pos (nI_lt cl (by omega)), if_pos cl]; exact up
    · rw [if_neg (nI_nlt (by omega) a2), if_neg cl, Ok_some]
      exact ⟨H1, ⟨a1, a2, a3⟩, KR1⟩
theorem hangs_spec {V : HV} {S : SV} {X : RX} (hV : HW V) (hS : SR V S) (hX : XW V X) : ∀ (n t k : Nat) (c : Nat → Nat) (a : Ac) (ν : fMem), t + n = frN V → n < k → RM ν V S X → HM ν V S t c → AccR (ν.1 181 53) (ν.1 211) (frN V) a → Ok (fr_X11_hangs k 181 (nI t) (nI (frN V)) ν) (fun _ ν' => HM ν' V S t c ∧ AccR (ν'.1 181 53) (ν'.1 211) (frN V) (hgR (lvN V (glassS V (S 6 0)) (V.2.1 3) S) (V.1 0) n t c a) ∧ KR ν ν')
  | 0, t, k, c, a, ν, hn, hk, M, H, A => by
    obtain ⟨k, rfl⟩ : ∃ k', k = k' + 1 := ⟨k - 1, by omega⟩
    have ht : t = frN V := by omega
    subst ht
    exact leafM hV hS hX M H A _
  | n + 1, t, k, c, a, ν, hn, hk, M, H, A => by
    obtain ⟨k, rfl⟩ : ∃ k', k = k' + 1 := ⟨k - 1, by omega⟩
    have h6 : V.1 0 ≤ 6 := hV.1
    have h8 : V.1 2 ≤ 8 := hV.2.2.1
    have hF4 : frN V ≤ 4 := by unfold frN; omega
    show Ok (f_X11_hangs_b (fr_X11_hangs k) 181 (nI t) (nI (frN V)) ν) _
    unfold f_X11_hangs_b
    rw [if_neg (nI_ge (by omega) (by omega)), Ok_bd]
    refine Ok.mono (Q := fun u (q : Int32 × fMem) => HM q.2 V S t c ∧ AccR (q.2.1 181 53) (q.2.1 211) (frN V) (hgR (lvN V (glassS V (S 6 0)) (V.2.1 3) S) (V.1 0) (n + 1) t c a) ∧ KR ν q.2) (Ok_lp (V.1 0) (fun r (q : Int32 × fMem) => q.1 = nI r ∧ HM q.2 V S t c ∧ AccR (q.2.1 181 53) (q.2.1 211) (frN V) (hgL (fun r a => hgR (lvN V (glassS V (S 6 0)) (V.2.1 3) S) (V.1 0) n (t + 1) (updc c t r) a) r a) ∧ KR ν q.2) (by omega) ⟨rfl, H, A, Kx.rfl'⟩ ?_) ?_
    · rintro r ⟨z, ν1⟩ hr ⟨hz, H1, A1, K1⟩
      dsimp only at hz H1 A1 K1 ⊢
      subst hz
      have M1 := M.kr hV hX K1
      unfold f_X11_hangs_L7
      simp only [Nat.reduceAdd]
      rw [M1.1.1 0 (by omega)]
      rcases Nat.lt_or_ge r (V.1 0) with q | q
      · rw [if_neg (nI_ge q (by omega)), show (8 : Int32) + nI t = nI (8 * 1 + t) from nI_add 8 t, gd_t (ixN (by omega) (by omega)), nI_clamp (by omega), Ok_vl]
        have H2 : HM (sI ν1 206 (8 * 1 + t) (nI r)) V S (t + 1) (updc c t r) := by
          obtain ⟨cc, x1, x2, x3⟩ := H1
          refine ⟨updc cc t r, fun i hi => ?_, fun i hi => ?_, ?_⟩
          · unfold updc
            split
            · exact q
            · exact x1 i hi
          · unfold updc
            by_cases e : i = t
            · rw [if_pos e, if_pos e]
            · rw [if_neg e, if_neg e]; exact x2 i (by omega)
          · rw [← cS_up (show t < frN V by omega)]
            exact x3.put8 (i := 0) (j := t) (by omega) (by omega) (nI r) (fun _ z => absurd z.1 (by decide))
        have K2 : KR ν (sI ν1 206 (8 * 1 + t) (nI r)) := K1.sI (Or.inr (Or.inl (by unfold Px; omega)))
        have A2 : AccR ((sI ν1 206 (8 * 1 + t) (nI r)).1 181 53) ((sI ν1 206 (8 * 1 + t) (nI r)).1 211) (frN V) (hgL (fun r a => hgR (lvN V (glassS V (S 6 0)) (V.2.1 3) S) (V.1 0) n (t + 1) (updc c t r) a) r a) := by
          rw [sI_i, if_neg (by omega), show (sI ν1 206 (8 * 1 + t) (nI r)).1 211 = ν1.1 211 by funext j; rw [sI_i, if_neg (by omega)]]; exact A1
        generalize sI ν1 206 (8 * 1 + t) (nI r) = ν2 at H2 K2 A2 ⊢
        rw [Ok_bd, nI_1]
        refine (hangs_spec hV hS hX n (t + 1) k (updc c t r) _ ν2 (by omega) (by omega) (M.kr hV hX K2) H2 A2).mono ?_
        rintro - ν3 ⟨H3, A3, K3⟩
        rw [Ok_vl, nI_1, Ok_some]
        refine Or.inl ⟨rfl, q, rfl, ?_, A3, K2.trans K3⟩
        obtain ⟨cc, x1, x2, x3⟩ := H3
        refine ⟨cc, x1, fun i hi => ?_, x3⟩
        have := x2 i (by omega)
        unfold updc at this
        rw [if_neg (by omega)] at this
        exact this
      · rw [if_pos (nI_le q (by omega)), Ok_some]
        have : r = V.1 0 := by omega
        subst this
        exact Or.inr ⟨0, rfl, H1, A1, K1⟩
    · rintro u ⟨z, ν1⟩ h
      exact Ok_some.mpr h
theorem sim_hanging (a : Int32) : Sim Rel (f_X10_hanging 0 a) (f_X11_hanging 181 a) := by
  refine simQ fun μ ν V S X h hV hS hX C M => ?_
  have cc := C.2.2.2.2.2.1
  have h6 : V.1 0 ≤ 6 := hV.1
  have h8 : V.1 2 ≤ 8 := hV.2.2.1
  have hts : ∀ d, d < V.1 3 → Upto 9 (V.2.1 3 d) := fun d hd => (hV.2.2.2.2.2.2.2.1 d hd).1
  have hF4 : frN V ≤ 4 := by unfold frN; omega
  by_cases a0 : a < 0
  · refine ⟨-1, ?_, ?_⟩
    · unfold f_X10_hanging; rw [if_pos a0]; exact qc_some cc
    · unfold f_X11_hanging
      refine qm_th hV hX M fun ν1 K M => ?_
      rw [if_pos a0]; exact qm_some K
  by_cases a4 : 4 < a
  · refine ⟨-1, ?_, ?_⟩
    · unfold f_X10_hanging; rw [if_neg a0, if_pos a4]; exact qc_some cc
    · unfold f_X11_hanging
      refine qm_th hV hX M fun ν1 K M => ?_
      rw [if_neg a0, if_pos a4]; exact qm_some K
  by_cases c0 : V.1 0 = 0
  · refine ⟨-1, ?_, ?_⟩
    · unfold f_X10_hanging
      rw [if_neg a0, if_neg a4]
      refine qc_h C ?_
      rw [told0 C.2.2.2.1, bd_some, c0, if_pos (show nI 0 = 0 from rfl)]; exact qc_some cc
    · unfold f_X11_hanging
      refine qm_th hV hX M fun ν1 K M => ?_
      simp only [Nat.reduceAdd]
      rw [if_neg a0, if_neg a4, M.1.1 0 (by omega), c0, if_pos (show nI 0 = 0 from rfl)]; exact qm_some K
  have n0 : ¬ nI (V.1 0) = 0 := nI_ne0 (by omega) (by omega)
  obtain ⟨w, hw, rfl⟩ := nI_of2 (x := a) (M := 4) (n := 4) (by decide) a0 (Int32.not_lt.mp a4)
  obtain ⟨p, hp⟩ := hgR_some (lvN V (glassS V (S 6 0)) (V.2.1 3) S) (R := V.1 0) (by omega) (frN V) 0 (fun _ => 0) none
  have w4 : nI w = 4 ↔ w = 4 := nI_eq (a := w) (b := 4) (by omega) (by omega)
  refine ⟨if w = 4 then nI p.1 else if frN V ≤ w then -2 else nI (p.2 w), ?_, ?_⟩
  · have fin : (w = 4 ∨ w < frN V) → QC (f_X10_hanging_j42 0 (nI w) μ) μ V (if w = 4 then nI p.1 else if frN V ≤ w then -2 else nI (p.2 w)) := by
      intro hw2
      unfold f_X10_hanging_j42
      refine qc_h C ?_
      simp only [Nat.reduceAdd]
      refine Ok_bd.mpr ((C.begin hV hS).mono ?_)
      rintro - μ1 ⟨C1, P1, K1, R1⟩
      rw [Ok_vl, R1.2.1, gd_t R1.kd, Ok_bd]
      refine (workH_spec C1 hS hts).mono ?_
      rintro - μ2 ⟨A2, K2, cc2⟩
      rw [hp] at A2
      obtain ⟨b1, b2, b3⟩ := A2
      by_cases e4 : w = 4
      · rw [if_pos (w4.mpr e4), if_pos e4, b1, Ok_some]
        exact ⟨rfl, K1.trans K2, cc2⟩
      · have hwF : w < frN V := hw2.resolve_left e4
        rw [if_neg (fun z => e4 (w4.mp z)), if_neg e4, gd_t (ixN (by omega) (by omega)), nI_clamp (by omega), b3 w hwF, if_neg (by omega), Ok_some]
        exact ⟨rfl, K1.trans K2, cc2⟩
    unfold f_X10_hanging
    rw [if_neg a0, if_neg a4]
    refine qc_h C ?_
    rw [told0 C.2.2.2.1, bd_some, if_neg n0]
    by_cases e4 : w = 4
    · rw [if_pos (show 4 ≤ nI w by rw [e4]; decide)]
      exact fin (Or.inl e4)
    · rw [if_neg (show ¬ 4 ≤ nI w from nI_ge (b := 4) (by omega) (by omega))]
      refine qc_h C ?_
      rw [has2 C.2.2.2.1, bd_some]
      by_cases ct : hs (V.1 2) (nI w)
      · obtain ⟨t, ht, e⟩ := hs_ex ct (by omega)
        have : w = t := (nI_eq (by omega) (by omega)).mp e
        rw [if_pos ct, if_neg (by decide)]
        exact fin (Or.inr (by unfold frN; omega))
      · have : V.1 2 ≤ w := by
          rcases Nat.lt_or_ge w (V.1 2) with q | q
          · exact absurd (hs_nI q (by omega)) ct
          · exact q
        rw [if_neg ct, if_pos rfl, if_neg e4, if_pos (show frN V ≤ w by unfold frN; omega)]
        exact qc_some cc
  · unfold f_X11_hanging
    refine qm_th hV hX M fun ν1 K M => ?_
    simp only [Nat.reduceAdd]
    have e5 : imn 4 (nI (V.1 2)) = nI (frN V) := by
      unfold imn frN
      by_cases c : V.1 2 < 4
      · rw [if_pos (show nI (V.1 2) < 4 from nI_lt (b := 4) c (by omega)), show min 4 (V.1 2) = V.1 2 by omega]
      · rw [if_neg (show ¬ nI (V.1 2) < 4 from nI_nlt (b := 4) (by omega) (by omega)), show min 4 (V.1 2) = 4 by omega]; rfl
    rw [if_neg a0, if_neg a4, M.1.1 0 (by omega), if_neg n0, M.1.1 2 (by omega), e5]
    refine Ok_vl.mpr (Ok_bd.mpr ((copyM hV hS hX M).mono ?_))
    rintro - ν2 ⟨P2, K2, M2⟩
    rw [Ok_vl]
    have K3 : KR ν2 (sI ν2 181 53 (-1)) := Kx.rfl'.sI (Or.inl ⟨rfl, Or.inr (Or.inr rfl)⟩)
    have H3 : HM (sI ν2 181 53 (-1)) V S 0 (fun _ => 0) := by
      refine HM.of (ν := ν2) h8 ⟨fun i => (S 0 i).toNatClampNeg, fun i hi => ?_, fun i hi => by omega, ?_⟩ (fun k j q => by rw [sI_i, if_neg (by unfold Px at q; omega)])
      · obtain ⟨r, hr, e⟩ := hS.1 i (by unfold frN at hi; omega)
        dsimp only
        rw [e, nI_clamp (by omega)]; exact hr
      · have : cS V S (fun i => (S 0 i).toNatClampNeg) = S := by
          funext i j
          unfold cS
          by_cases q : i = 0 ∧ j < frN V
          · obtain ⟨r, hr, e⟩ := hS.1 j (by have := q.2; unfold frN at this; omega)
            rw [if_pos q, q.1]
            dsimp only
            rw [e, nI_clamp (by omega)]
          · rw [if_neg q]
        rw [this]
        exact P2.2.2.2.1
    have A3 : AccR ((sI ν2 181 53 (-1)).1 181 53) ((sI ν2 181 53 (-1)).1 211) (frN V) none := by
      show _ = _
      rw [sI_i, if_pos ⟨rfl, rfl⟩]
    have M3 := M2.kr hV hX K3
    generalize sI ν2 181 53 (-1) = ν3 at K3 H3 A3 M3 ⊢
    unfold f_X11_hangs
    rw [Ok_bd]
    refine (hangs_spec hV hS hX (frN V) 0 8 (fun _ => 0) none ν3 (by omega) (by omega) M3 H3 A3).mono ?_
    rintro - ν4 ⟨H4, A4, K4⟩
    rw [hp] at A4
    obtain ⟨b1, b2, b3⟩ := A4
    have KK : KR ν ν4 := ((K.trans K2).trans K3).trans K4
    by_cases e4 : w = 4
    · rw [if_pos (w4.mpr e4), if_pos e4, b1, Ok_some]
      exact ⟨rfl, KK⟩
    · rw [if_neg (fun z => e4 (w4.mp z)), if_neg e4]
      by_cases c : frN V ≤ w
      · rw [if_pos (nI_le c (by omega)), if_pos c, Ok_some]
        exact ⟨rfl, KK⟩
      · rw [if_neg (nI_ge (by omega) (by omega)), if_neg c, gd_t (ixN (by omega) (by omega)), nI_clamp (by omega), b3 w (by omega), Ok_some]
        exact ⟨rfl, KK⟩
end Sim21
