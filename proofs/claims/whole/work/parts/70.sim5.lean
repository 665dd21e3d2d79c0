/-! what nobody likes, what is best loved -/
section Sim5
def allB (p : Nat → Bool) : Nat → Bool
  | 0 => true
  | n + 1 => allB p n && p n
def lkT (V : HV) (g : Int32) (ts : Nat → Int32) (S : SV) (d t : Nat) : Int32 := lkS V g ts S d t (S 0 t).toNatClampNeg
theorem CK.rfl' {μ : fMem} {V : HV} (c : CC μ V) : CK μ μ V := ⟨Kp.rfl', c⟩
theorem lkC {μ : fMem} {V : HV} {h s : Nat} {S : SV} {g : Int32} {ts : Nat → Int32} (C : Crs μ V h s S g ts) (hS : SR V S) {d t : Nat} (hd : d < V.1 3) (ht : t < V.1 2) : Ok (f_X0_likes 84 (nI d) (nI t) (μ.1 (s + 1) t) μ) (fun x μ' => x = lkT V g ts S d t ∧ CK μ μ' V) := by
  have h0 : V.1 0 ≤ 6 := C.1.1
  obtain ⟨r, hr, e⟩ := hS.1 t ht
  rw [C.2.2.2.1.1 t ht]
  unfold lkT
  rw [e, nI_clamp (by omega)]
  exact likes_spec C hd ht (by omega)
theorem lkM {ν : fMem} {V : HV} {x : Nat} {S : SV} {g : Int32} {ts : Nat → Int32} {tw ti : Int32} (M : Mrs ν V x S g ts tw ti) (hS : SR V S) {d t : Nat} (hd : d < V.1 3) (ht : t < V.1 2) : Ok (f_X11_likingOf 181 (nI x) (nI d) (nI t) ν) (fun y ν' => y = lkT V g ts S d t ∧ KM ν ν') := by
  have h0 : V.1 0 ≤ 6 := M.1.1
  obtain ⟨r, hr, e⟩ := hS.1 t ht
  unfold lkT
  rw [e, nI_clamp (by omega)]
  exact likingOf_spec M hd ht (by omega) e
def shB (V : HV) (g : Int32) (ts : Nat → Int32) (S : SV) (t i : Nat) : Bool := allB (fun d => decide (lkT V g ts S d t < 30)) i
theorem shB_succ (V : HV) (g : Int32) (ts : Nat → Int32) (S : SV) (t i : Nat) : shB V g ts S t (i + 1) = (shB V g ts S t i && decide (lkT V g ts S i t < 30)) := rfl
theorem shC_in {μ : fMem} {V : HV} {h : Nat} {S : SV} {X : RX} {g : Int32} {ts : Nat → Int32} (C : Crs μ V h 66 S g ts) (R : RC μ V S X h) (hS : SR V S) {t : Nat} (ht : t < V.1 2) (v1 : Int32) : Ok (lpn (fun (q : Int32 × Int32 × fMem) => f_X10_shunned_L36 0 v1 (nI t) q.1 q.2.1 q.2.2) fuel ((0 : Int32), (0 : Int32), μ)) (fun _ q => q.1 = (if shB V g ts S t (V.1 3) = true then 0 else 1) ∧ CK μ q.2.2 V) := by
  have h6 : V.1 3 ≤ 6 := C.1.2.2.2.1
  have h8 : V.1 2 ≤ 8 := C.1.2.2.1
  refine Ok_lp (V.1 3) (fun i (q : Int32 × Int32 × fMem) => q.2.1 = nI i ∧ q.1 = (if shB V g ts S t i = true then 0 else 1) ∧ CK μ q.2.2 V) (by omega) ⟨rfl, rfl, CK.rfl' C.2.2.2.2.2⟩ ?_
  rintro i ⟨b, z, μ1⟩ hi ⟨hz, hb, K1⟩
  dsimp only at hz hb K1 ⊢
  subst hz
  have C1 := K1.crs C
  have R1 := R.ke K1.e K1.2
  unfold f_X10_shunned_L36
  simp only [Nat.reduceAdd]
  rw [Ok_vl, R1.2.1, gd_t R1.kd, told3 R1.2.2.2.1, bd_some]
  rcases Nat.lt_or_ge i (V.1 3) with q | q
  · rw [if_neg (nI_ge q (by omega)), gd_t (ixN (by omega) (by omega)), nI_clamp (by omega), Ok_bd]
    refine (lkC C1 hS q ht).mono ?_
    rintro y μ2 ⟨rfl, K2⟩
    by_cases c : lkT V g ts S i t < 30
    · rw [if_pos c, Ok_vl, nI_1, Ok_some]
      refine Or.inl ⟨rfl, q, rfl, ?_, K1.trans K2⟩
      rw [shB_succ, decide_eq_true c, Bool.and_true]; exact hb
    · rw [if_neg c, Ok_vl, nI_1, Ok_some]
      refine Or.inl ⟨rfl, q, rfl, ?_, K1.trans K2⟩
      rw [shB_succ, decide_eq_false c, Bool.and_false]; rfl
  · rw [if_pos (nI_le q (by omega)), Ok_some]
    have : i = V.1 3 := by omega
    subst this
    exact Or.inr ⟨0, rfl, hb, K1⟩
theorem shM_in {ν : fMem} {V : HV} {S : SV} {g : Int32} {ts : Nat → Int32} {tw ti : Int32} (M : Mrs ν V 0 S g ts tw ti) (hS : SR V S) {t : Nat} (ht : t < V.1 2) (v1 : Int32) : Ok (lpn (fun (q : Int32 × Int32 × fMem) => f_X11_shunned_L24 181 v1 (nI t) q.1 q.2.1 q.2.2) fuel ((1 : Int32), (0 : Int32), ν)) (fun _ q => q.1 = (if shB V g ts S t (V.1 3) = true then 1 else 0) ∧ KM ν q.2.2) := by
  have h6 : V.1 3 ≤ 6 := M.1.2.2.2.1
  refine Ok_lp (V.1 3) (fun i (q : Int32 × Int32 × fMem) => q.2.1 = nI i ∧ q.1 = (if shB V g ts S t i = true then 1 else 0) ∧ KM ν q.2.2) (by omega) ⟨rfl, rfl, Kx.rfl'⟩ ?_
  rintro i ⟨b, z, ν1⟩ hi ⟨hz, hb, K1⟩
  dsimp only at hz hb K1 ⊢
  subst hz
  have M1 := M.km K1
  unfold f_X11_shunned_L24
  simp only [Nat.reduceAdd]
  rw [M1.2.2.1.1 3 (by omega)]
  rcases Nat.lt_or_ge i (V.1 3) with q | q
  · rw [if_neg (nI_ge q (by omega)), Ok_bd]
    refine (lkM M1 hS q ht).mono ?_
    rintro y ν2 ⟨rfl, K2⟩
    by_cases c : lkT V g ts S i t < 30
    · rw [if_neg (Int32.not_le.mpr c), Ok_vl, Ok_vl, nI_1, Ok_some]
      refine Or.inl ⟨rfl, q, rfl, ?_, K1.trans K2⟩
      rw [shB_succ, decide_eq_true c, Bool.and_true, hb]
      dsimp only
      cases shB V g ts S t i <;> decide
    · rw [if_pos (Int32.not_lt.mp c), Ok_vl, Ok_vl, nI_1, Ok_some]
      refine Or.inl ⟨rfl, q, rfl, ?_, K1.trans K2⟩
      rw [shB_succ, decide_eq_false c, Bool.and_false, hb]
      dsimp only
      cases shB V g ts S t i <;> decide
  · rw [if_pos (nI_le q (by omega)), Ok_some]
    have : i = V.1 3 := by omega
    subst this
    exact Or.inr ⟨0, rfl, hb, K1⟩
theorem orN_succ (p : Nat → Bool) (i : Nat) : orN p (i + 1) = if p i = true then orN p i ||| shl 1 (nI i) else orN p i := rfl
theorem sim_shunned : Sim Rel (f_X10_shunned 0) (f_X11_shunned 181) := by
  refine simQ fun μ ν V S X h hV hS hX C M => ⟨orN (fun t => shB V (glassS V (S 6 0)) (V.2.1 3) S t (V.1 3)) (V.1 2), ?_, ?_⟩
  · have h8 : V.1 2 ≤ 8 := hV.2.2.1
    unfold f_X10_shunned
    refine qc_h C ?_
    simp only [Nat.reduceAdd]
    refine Ok_bd.mpr ?_
    refine (C.begin hV hS).mono ?_
    rintro - μ1 ⟨C1, P1, K1, R1⟩
    rw [Ok_bd]
    refine Ok.mono (Q := fun u (q : Int32 × Int32 × fMem) => q.1 = orN (fun t => shB V (glassS V (S 6 0)) (V.2.1 3) S t (V.1 3)) (V.1 2) ∧ CK μ1 q.2.2 V) (Ok_lp (V.1 2) (fun i (q : Int32 × Int32 × fMem) => q.2.1 = nI i ∧ q.1 = orN (fun t => shB V (glassS V (S 6 0)) (V.2.1 3) S t (V.1 3)) i ∧ CK μ1 q.2.2 V) (by omega) ⟨rfl, rfl, CK.rfl' C1.2.2.2.2.2⟩ ?_) ?_
    · rintro i ⟨b, z, μ2⟩ hi ⟨hz, hb, K2⟩
      dsimp only at hz hb K2 ⊢
      subst hz
      have C2 := K2.crs C1
      have R2 := R1.ke K2.e K2.2
      unfold f_X10_shunned_L19
      rw [Ok_vl, R2.2.1, gd_t R2.kd, told2 R2.2.2.2.1, bd_some]
      rcases Nat.lt_or_ge i (V.1 2) with q | q
      · rw [if_neg (nI_ge q (by omega)), Ok_bd]
        refine (shC_in C2 R2 hS q b).mono ?_
        rintro u ⟨x, y, μ3⟩ ⟨hx, K3⟩
        dsimp only at hx K3 ⊢
        subst hx hb
        cases hc : shB V (glassS V (S 6 0)) (V.2.1 3) S i (V.1 3) with
        | true =>
          rw [if_pos (show (if true = true then (0 : Int32) else 1) = 0 by decide), Ok_vl, Ok_vl, nI_1, Ok_some]
          exact Or.inl ⟨rfl, q, rfl, by rw [orN_succ, if_pos hc], K2.trans K3⟩
        | false =>
          rw [if_neg (show ¬ (if false = true then (0 : Int32) else 1) = 0 by decide), Ok_vl, nI_1, Ok_some]
          exact Or.inl ⟨rfl, q, rfl, by rw [orN_succ, if_neg (by rw [hc]; decide)], K2.trans K3⟩
      · rw [if_pos (nI_le q (by omega)), Ok_some]
        have : i = V.1 2 := by omega
        subst this
        exact Or.inr ⟨0, rfl, hb, K2⟩
    · rintro u ⟨b, z, μ2⟩ ⟨hb, K2⟩
      exact Ok_some.mpr ⟨hb, K1.trans K2.e, K2.2⟩
  · have h8 : V.1 2 ≤ 8 := hV.2.2.1
    unfold f_X11_shunned
    refine qm_th hV hX M fun ν1 K M => ?_
    refine Ok_bd.mpr ?_
    have M0 := M.mrs hV hS
    refine Ok.mono (Q := fun u (q : Int32 × Int32 × fMem) => q.1 = orN (fun t => shB V (glassS V (S 6 0)) (V.2.1 3) S t (V.1 3)) (V.1 2) ∧ KM ν1 q.2.2) (Ok_lp (V.1 2) (fun i (q : Int32 × Int32 × fMem) => q.2.1 = nI i ∧ q.1 = orN (fun t => shB V (glassS V (S 6 0)) (V.2.1 3) S t (V.1 3)) i ∧ KM ν1 q.2.2) (by omega) ⟨rfl, rfl, Kx.rfl'⟩ ?_) ?_
    · rintro i ⟨b, z, ν2⟩ hi ⟨hz, hb, K2⟩
      dsimp only at hz hb K2 ⊢
      subst hz
      have M2 := M0.km K2
      unfold f_X11_shunned_L9
      simp only [Nat.reduceAdd]
      rw [M2.2.2.1.1 2 (by omega)]
      rcases Nat.lt_or_ge i (V.1 2) with q | q
      · rw [if_neg (nI_ge q (by omega)), Ok_bd]
        refine (shM_in M2 hS q b).mono ?_
        rintro u ⟨x, y, ν3⟩ ⟨hx, K3⟩
        dsimp only at hx K3 ⊢
        subst hx hb
        cases hc : shB V (glassS V (S 6 0)) (V.2.1 3) S i (V.1 3) with
        | true =>
          rw [if_neg (show ¬ (if true = true then (1 : Int32) else 0) = 0 by decide), Ok_vl, Ok_vl, nI_1, Ok_some]
          exact Or.inl ⟨rfl, q, rfl, by rw [orN_succ, if_pos hc], K2.trans K3⟩
        | false =>
          rw [if_pos (show (if false = true then (1 : Int32) else 0) = 0 by decide), Ok_vl, Ok_vl, nI_1, Ok_some]
          exact Or.inl ⟨rfl, q, rfl, by rw [orN_succ, if_neg (by rw [hc]; decide)]; exact Int32.or_zero, K2.trans K3⟩
      · rw [if_pos (nI_le q (by omega)), Ok_some]
        have : i = V.1 2 := by omega
        subst this
        exact Or.inr ⟨0, rfl, hb, K2⟩
    · rintro u ⟨b, z, ν2⟩ ⟨hb, K2⟩
      exact Ok_some.mpr ⟨hb, K.trans (KM.r K2)⟩
/-- all likings of a thing -/
def lvT (V : HV) (g : Int32) (ts : Nat → Int32) (S : SV) (t : Nat) : Int32 := sumN (V.1 3) fun d => lkT V g ts S d t
theorem lvT_up {V : HV} (hV : HW V) {g : Int32} {ts : Nat → Int32} (hts : ∀ d, d < V.1 3 → Upto 9 (ts d)) (S : SV) {t : Nat} (ht : t < V.1 2) : Upto 600 (lvT V g ts S t) := by
  have h6 : V.1 3 ≤ 6 := hV.2.2.2.1
  obtain ⟨j, hj, e⟩ := sumN_up99 (f := fun d => lkT V g ts S d t) (n := V.1 3) (by omega) (fun d hd => lkv_up hV ht (hts d hd))
  exact ⟨j, by omega, e⟩
theorem lvC_in {μ : fMem} {V : HV} {h : Nat} {S : SV} {X : RX} {g : Int32} {ts : Nat → Int32} (C : Crs μ V h 66 S g ts) (R : RC μ V S X h) (hS : SR V S) {t : Nat} (ht : t < V.1 2) (v1 v2 v3 : Int32) : Ok (lpn (fun (q : Int32 × Int32 × fMem) => f_X10_loved_L63 0 v1 v2 v3 (nI t) q.1 q.2.1 q.2.2) fuel ((0 : Int32), (0 : Int32), μ)) (fun _ q => q.1 = lvT V g ts S t ∧ CK μ q.2.2 V) := by
  have h6 : V.1 3 ≤ 6 := C.1.2.2.2.1
  have h8 : V.1 2 ≤ 8 := C.1.2.2.1
  refine Ok_lp (V.1 3) (fun i (q : Int32 × Int32 × fMem) => q.2.1 = nI i ∧ q.1 = sumN i (fun d => lkT V g ts S d t) ∧ CK μ q.2.2 V) (by omega) ⟨rfl, rfl, CK.rfl' C.2.2.2.2.2⟩ ?_
  rintro i ⟨b, z, μ1⟩ hi ⟨hz, hb, K1⟩
  dsimp only at hz hb K1 ⊢
  subst hz
  have C1 := K1.crs C
  have R1 := R.ke K1.e K1.2
  unfold f_X10_loved_L63
  simp only [Nat.reduceAdd]
  rw [Ok_vl, R1.2.1, gd_t R1.kd, told3 R1.2.2.2.1, bd_some]
  rcases Nat.lt_or_ge i (V.1 3) with q | q
  · rw [if_neg (nI_ge q (by omega)), gd_t (ixN (by omega) (by omega)), nI_clamp (by omega), Ok_bd]
    refine (lkC C1 hS q ht).mono ?_
    rintro y μ2 ⟨rfl, K2⟩
    rw [Ok_vl, Ok_vl, nI_1, Ok_some]
    refine Or.inl ⟨rfl, q, rfl, ?_, K1.trans K2⟩
    rw [hb]; rfl
  · rw [if_pos (nI_le q (by omega)), Ok_some]
    have : i = V.1 3 := by omega
    subst this
    exact Or.inr ⟨0, rfl, hb, K1⟩
theorem lvM_in {ν : fMem} {V : HV} {S : SV} {g : Int32} {ts : Nat → Int32} {tw ti : Int32} (M : Mrs ν V 0 S g ts tw ti) (hS : SR V S) {t : Nat} (ht : t < V.1 2) (v1 v2 v3 : Int32) : Ok (lpn (fun (q : Int32 × Int32 × fMem) => f_X11_loved_L49 181 v1 v2 v3 (nI t) q.1 q.2.1 q.2.2) fuel ((0 : Int32), (0 : Int32), ν)) (fun _ q => q.1 = lvT V g ts S t ∧ KM ν q.2.2) := by
  have h6 : V.1 3 ≤ 6 := M.1.2.2.2.1
  refine Ok_lp (V.1 3) (fun i (q : Int32 × Int32 × fMem) => q.2.1 = nI i ∧ q.1 = sumN i (fun d => lkT V g ts S d t) ∧ KM ν q.2.2) (by omega) ⟨rfl, rfl, Kx.rfl'⟩ ?_
  rintro i ⟨b, z, ν1⟩ hi ⟨hz, hb, K1⟩
  dsimp only at hz hb K1 ⊢
  subst hz
  have M1 := M.km K1
  unfold f_X11_loved_L49
  simp only [Nat.reduceAdd]
  rw [M1.2.2.1.1 3 (by omega)]
  rcases Nat.lt_or_ge i (V.1 3) with q | q
  · rw [if_neg (nI_ge q (by omega)), Ok_bd]
    refine (lkM M1 hS q ht).mono ?_
    rintro y ν2 ⟨rfl, K2⟩
    rw [Ok_vl, Ok_vl, nI_1, Ok_some]
    refine Or.inl ⟨rfl, q, rfl, ?_, K1.trans K2⟩
    rw [hb]; rfl
  · rw [if_pos (nI_le q (by omega)), Ok_some]
    have : i = V.1 3 := by omega
    subst this
    exact Or.inr ⟨0, rfl, hb, K1⟩
/-- the first of the greatest -/
def gst (f : Nat → Int32) : Nat → Nat
  | 0 => 0
  | n + 1 => if n = 0 ∨ f (gst f n) < f n then n else gst f n
theorem gst_lt {f : Nat → Int32} : ∀ {n : Nat}, 0 < n → gst f n < n
  | 0, h => by omega
  | n + 1, _ => by
    unfold gst
    split
    · omega
    · rename_i hc
      have := gst_lt (f := f) (n := n) (by omega)
      omega
theorem sim_loved (a : Int32) : Sim Rel (f_X10_loved 0 a) (f_X11_loved 181 a) := by
  refine simQ fun μ ν V S X h hV hS hX C M => ?_
  have cc := C.2.2.2.2.2.1
  have h6 : V.1 3 ≤ 6 := hV.2.2.2.1
  have h8 : V.1 2 ≤ 8 := hV.2.2.1
  by_cases a0 : a < 0
  · refine ⟨-1, ?_, ?_⟩
    · unfold f_X10_loved; rw [if_pos a0]; exact qc_some cc
    · unfold f_X11_loved
      refine qm_th hV hX M fun ν1 K M => ?_
      rw [if_pos a0]; exact qm_some K
  · by_cases a1 : 1 < a
    · refine ⟨-1, ?_, ?_⟩
      · unfold f_X10_loved; rw [if_neg a0, if_pos a1]; exact qc_some cc
      · unfold f_X11_loved
        refine qm_th hV hX M fun ν1 K M => ?_
        rw [if_neg a0, if_pos a1]; exact qm_some K
    · by_cases t0 : V.1 2 = 0
      · refine ⟨-1, ?_, ?_⟩
        · unfold f_X10_loved
          rw [if_neg a0, if_neg a1]
          refine qc_h C ?_
          rw [told2 C.2.2.2.1, bd_some, t0, if_pos (show nI 0 = 0 from rfl)]
          exact qc_some cc
        · unfold f_X11_loved
          refine qm_th hV hX M fun ν1 K M => ?_
          simp only [Nat.reduceAdd]
          rw [if_neg a0, if_neg a1, M.1.1 2 (by omega), t0, if_pos (show nI 0 = 0 from rfl)]
          exact qm_some K
      · have n0 : ¬ nI (V.1 2) = 0 := nI_ne0 (by omega) (by omega)
        generalize hg : glassS V (S 6 0) = g
        generalize hts : V.2.1 3 = ts
        have hup : ∀ d, d < V.1 3 → Upto 9 (ts d) := fun d hd => by rw [← hts]; exact (hV.2.2.2.2.2.2.2.1 d hd).1
        refine ⟨if a = 0 then nI (gst (lvT V g ts S) (V.1 2)) else lvT V g ts S (gst (lvT V g ts S) (V.1 2)), ?_, ?_⟩
        · unfold f_X10_loved
          rw [if_neg a0, if_neg a1]
          refine qc_h C ?_
          simp only [Nat.reduceAdd]
          rw [told2 C.2.2.2.1, bd_some, if_neg n0]
          refine qc_h C ?_
          refine Ok_bd.mpr ?_
          refine (C.begin hV hS).mono ?_
          rintro - μ1 ⟨C1, P1, K1, R1⟩
          rw [hg, hts] at C1
          rw [Ok_bd]
          refine Ok.mono (Q := fun u (q : Int32 × Int32 × Int32 × fMem) => (q.1 = nI (gst (lvT V g ts S) (V.1 2)) ∧ q.2.1 = lvT V g ts S (gst (lvT V g ts S) (V.1 2))) ∧ CK μ1 q.2.2.2 V) (Ok_lp (V.1 2) (fun i (q : Int32 × Int32 × Int32 × fMem) => q.2.2.1 = nI i ∧ ((i = 0 ∧ q.1 = -1) ∨ (0 < i ∧ q.1 = nI (gst (lvT V g ts S) i) ∧ q.2.1 = lvT V g ts S (gst (lvT V g ts S) i))) ∧ CK μ1 q.2.2.2 V) (by omega) ⟨rfl, Or.inl ⟨rfl, rfl⟩, CK.rfl' C1.2.2.2.2.2⟩ ?_) ?_
          · rintro i ⟨b, mo, z, μ2⟩ hi ⟨hz, hb, K2⟩
            dsimp only at hz hb K2 ⊢
            subst hz
            have C2 := K2.crs C1
            have R2 := R1.ke K2.e K2.2
            unfold f_X10_loved_L44
            rw [Ok_vl, R2.2.1, gd_t R2.kd, told2 R2.2.2.2.1, bd_some]
            rcases Nat.lt_or_ge i (V.1 2) with q | q
            · rw [if_neg (nI_ge q (by omega)), Ok_bd]
              refine (lvC_in C2 R2 hS q a b mo).mono ?_
              rintro u ⟨x, y, μ3⟩ ⟨hx, K3⟩
              dsimp only at hx K3 ⊢
              subst hx
              unfold f_X10_loved_j119
              rcases hb with ⟨rfl, rfl⟩ | ⟨hp, rfl, rfl⟩
              · rw [if_pos rfl, Ok_vl, nI_1, Ok_some]
                exact Or.inl ⟨rfl, q, rfl, Or.inr ⟨by omega, rfl, rfl⟩, K2.trans K3⟩
              · have hl := gst_lt (f := lvT V g ts S) hp
                rw [if_neg (nI_nm1 (by omega))]
                by_cases c : lvT V g ts S (gst (lvT V g ts S) i) < lvT V g ts S i
                · have un : gst (lvT V g ts S) (i + 1) = i := by show (if _ then _ else _) = _; rw [if_pos (Or.inr c)]
                  rw [if_neg (Int32.not_le.mpr c), Ok_vl, nI_1, Ok_some]
                  exact Or.inl ⟨rfl, q, rfl, Or.inr ⟨by omega, by rw [un], by rw [un]⟩, K2.trans K3⟩
                · have un : gst (lvT V g ts S) (i + 1) = gst (lvT V g ts S) i := by show (if _ then _ else _) = _; rw [if_neg (by rintro (z | z); omega; exact c z)]
                  rw [if_pos (Int32.not_lt.mp c), Ok_vl, nI_1, Ok_some]
                  exact Or.inl ⟨rfl, q, rfl, Or.inr ⟨by omega, by rw [un], by rw [un]⟩, K2.trans K3⟩
            · rw [if_pos (nI_le q (by omega)), Ok_some]
              have : i = V.1 2 := by omega
              subst this
              rcases hb with ⟨z, -⟩ | ⟨-, e1, e2⟩
              · exact absurd z t0
              · exact Or.inr ⟨0, rfl, ⟨e1, e2⟩, K2⟩
          · rintro u ⟨b, mo, z, μ2⟩ ⟨⟨hb, hmo⟩, K2⟩
            dsimp only at hb hmo K2 ⊢
            subst hb hmo
            by_cases c : a = 0
            · rw [if_pos c, if_pos c]; exact Ok_some.mpr ⟨rfl, K1.trans K2.e, K2.2⟩
            · rw [if_neg c, if_neg c]; exact Ok_some.mpr ⟨rfl, K1.trans K2.e, K2.2⟩
        · unfold f_X11_loved
          refine qm_th hV hX M fun ν1 K M => ?_
          simp only [Nat.reduceAdd]
          rw [if_neg a0, if_neg a1, M.1.1 2 (by omega), if_neg n0]
          refine Ok_bd.mpr ?_
          have M0 := M.mrs hV hS
          rw [hg, hts] at M0
          refine Ok.mono (Q := fun u (q : Int32 × Int32 × Int32 × fMem) => (q.1 = nI (gst (lvT V g ts S) (V.1 2)) ∧ q.2.1 = lvT V g ts S (gst (lvT V g ts S) (V.1 2))) ∧ KM ν1 q.2.2.2) (Ok_lp (V.1 2) (fun i (q : Int32 × Int32 × Int32 × fMem) => q.2.2.1 = nI i ∧ ((i = 0 ∧ q.1 = 0 ∧ q.2.1 = -1) ∨ (0 < i ∧ q.1 = nI (gst (lvT V g ts S) i) ∧ q.2.1 = lvT V g ts S (gst (lvT V g ts S) i))) ∧ KM ν1 q.2.2.2) (by omega) ⟨rfl, Or.inl ⟨rfl, rfl, rfl⟩, Kx.rfl'⟩ ?_) ?_
          · rintro i ⟨b, mo, z, ν2⟩ hi ⟨hz, hb, K2⟩
            dsimp only at hz hb K2 ⊢
            subst hz
            have M2 := M0.km K2
            unfold f_X11_loved_L32
            simp only [Nat.reduceAdd]
            rw [M2.2.2.1.1 2 (by omega)]
            rcases Nat.lt_or_ge i (V.1 2) with q | q
            · rw [if_neg (nI_ge q (by omega)), Ok_bd]
              refine (lvM_in M2 hS q a b mo).mono ?_
              rintro u ⟨x, y, ν3⟩ ⟨hx, K3⟩
              dsimp only at hx K3 ⊢
              subst hx
              rcases hb with ⟨rfl, rfl, rfl⟩ | ⟨hp, rfl, rfl⟩
              · obtain ⟨j, hj, e⟩ := lvT_up hV (g := g) hup S q
                have up0 : (-1 : Int32) < lvT V g ts S 0 := by
                  rw [e]
                  exact Int32.lt_of_lt_of_le (by decide) (nI_pos' (show j < 2 ^ 31 by omega))
                rw [if_pos up0, Ok_vl, nI_1, Ok_some]
                exact Or.inl ⟨rfl, q, rfl, Or.inr ⟨by omega, rfl, rfl⟩, K2.trans K3⟩
              · by_cases c : lvT V g ts S (gst (lvT V g ts S) i) < lvT V g ts S i
                · have un : gst (lvT V g ts S) (i + 1) = i := by show (if _ then _ else _) = _; rw [if_pos (Or.inr c)]
                  rw [if_pos c, Ok_vl, nI_1, Ok_some]
                  exact Or.inl ⟨rfl, q, rfl, Or.inr ⟨by omega, by rw [un], by rw [un]⟩, K2.trans K3⟩
                · have un : gst (lvT V g ts S) (i + 1) = gst (lvT V g ts S) i := by show (if _ then _ else _) = _; rw [if_neg (by rintro (z | z); omega; exact c z)]
                  rw [if_neg c, Ok_vl, nI_1, Ok_some]
                  exact Or.inl ⟨rfl, q, rfl, Or.inr ⟨by omega, by rw [un], by rw [un]⟩, K2.trans K3⟩
            · rw [if_pos (nI_le q (by omega)), Ok_some]
              have : i = V.1 2 := by omega
              subst this
              rcases hb with ⟨z, -⟩ | ⟨-, e1, e2⟩
              · exact absurd z t0
              · exact Or.inr ⟨0, rfl, ⟨e1, e2⟩, K2⟩
          · rintro u ⟨b, mo, z, ν2⟩ ⟨⟨hb, hmo⟩, K2⟩
            dsimp only at hb hmo K2 ⊢
            subst hb hmo
            by_cases c : a = 0
            · rw [if_pos c, if_pos c]; exact Ok_some.mpr ⟨rfl, K.trans (KM.r K2)⟩
            · rw [if_neg c, if_neg c]; exact Ok_some.mpr ⟨rfl, K.trans (KM.r K2)⟩
end Sim5
