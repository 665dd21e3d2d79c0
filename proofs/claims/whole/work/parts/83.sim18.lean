/-! what must be hung so that one sits there -/
section Sim18
theorem nbT {m t : Nat} (ht : t < 8) : nbit (nI m) t ↔ m.testBit t = false := by
  rw [tb_of ht]
  show (BitVec.ofNat 32 m).getLsbD t = false ↔ _
  rw [BitVec.getLsbD_ofNat, decide_eq_true (show t < 32 by omega), Bool.true_and]
theorem and0 {x y : Int32} : x &&& y = 0 ↔ ∀ t, t < 32 → x.toBitVec.getLsbD t = false ∨ y.toBitVec.getLsbD t = false := by
  constructor
  · intro h t ht
    have : (x &&& y).toBitVec.getLsbD t = false := by rw [h]; simp
    rw [Int32.toBitVec_and, BitVec.getLsbD_and] at this
    exact Bool.and_eq_false_iff.mp this
  · intro h
    refine Int32.toBitVec_inj.mp (BitVec.eq_of_getLsbD_eq fun t ht => ?_)
    rw [Int32.toBitVec_and, BitVec.getLsbD_and, Bool.and_eq_false_iff.mpr (h t ht)]
    simp
theorem hi0 {m t : Nat} (hm : m < 256) (ht : 8 ≤ t) : (nI m).toBitVec.getLsbD t = false := by
  show (BitVec.ofNat 32 m).getLsbD t = false
  rw [BitVec.getLsbD_ofNat, Nat.testBit_lt_two_pow (Nat.lt_of_lt_of_le hm (Nat.pow_le_pow_right (n := 2) (by decide) ht)), Bool.and_false]
theorem sub0 {m : Nat} {y : Int32} (hm : m < 256) : nI m &&& y = 0 ↔ ∀ t, t < 8 → m.testBit t = true → nbit y t := by
  rw [and0]
  constructor
  · intro h t ht hb
    rcases h t (by omega) with e | e
    · rw [← tb_of ht, nbT ht] at e; rw [e] at hb; cases hb
    · exact (tb_of ht).mpr e
  · intro h t ht
    by_cases c : t < 8
    · cases e : m.testBit t with
      | false => exact Or.inl ((tb_of c).mp ((nbT c).mpr e))
      | true => exact Or.inr ((tb_of c).mp (h t c e))
    · exact Or.inl (hi0 hm (by omega))
theorem nbit_x {y : Int32} {t : Nat} (ht : t < 8) : nbit (y ^^^ -1) t ↔ ¬ nbit y t := by
  rw [tb_of ht, tb_of ht, Int32.toBitVec_xor, show (-1 : Int32).toBitVec = BitVec.allOnes 32 by decide, BitVec.getLsbD_xor, BitVec.getLsbD_allOnes, decide_eq_true (show t < 32 by omega)]
  cases y.toBitVec.getLsbD t <;> simp
theorem shl_T : ∀ T, T ≤ 8 → shl 1 (nI T) = nI (2 ^ T) := by decide +kernel
theorem bcS_9 : ∀ m, m < 256 → bcS (nI m) < 9 := by decide +kernel
theorem p256 {T : Nat} (h : T ≤ 8) : 2 ^ T ≤ 256 := Nat.pow_le_pow_right (n := 2) (by decide) h
def stB (ok : Nat → Bool) : Nat → Option Nat
  | 0 => none
  | m + 1 => match stB ok m with
    | none => if ok m = true then some m else none
    | some b => if ok m = true ∧ bcS (nI m) < bcS (nI b) then some m else some b
theorem stB_lt {ok : Nat → Bool} : ∀ {m b : Nat}, stB ok m = some b → b < m
  | 0, b, h => by cases h
  | m + 1, b, h => by
    unfold stB at h
    cases e : stB ok m with
    | none =>
      rw [e] at h
      dsimp only at h
      split at h
      · cases h; omega
      · cases h
    | some c =>
      rw [e] at h
      dsimp only at h
      have := stB_lt e
      split at h <;> cases h <;> omega
theorem stB_no {ok : Nat → Bool} {m : Nat} : ∀ {n : Nat}, m ≤ n → (∀ i, m ≤ i → i < n → ok i = false) → stB ok n = stB ok m
  | 0, h, _ => by rw [show m = 0 by omega]
  | n + 1, h, hn => by
    by_cases e : m = n + 1
    · rw [e]
    · have ih := stB_no (ok := ok) (m := m) (n := n) (by omega) (fun i a b => hn i a (by omega))
      have h0 := hn n (by omega) (by omega)
      rw [← ih]
      show (match stB ok n with | none => if ok n = true then some n else none | some b => if ok n = true ∧ bcS (nI n) < bcS (nI b) then some n else some b) = _
      rw [h0]
      cases stB ok n <;> simp
def hgS (m r : Nat) (S : SV) : SV := fun i j => if i = 0 ∧ j < 8 ∧ m.testBit j = true then nI r else S i j
theorem hgS_o {m r : Nat} {S : SV} {i j : Nat} (h : ¬ i = 0) : hgS m r S i j = S i j := if_neg (fun w => h w.1)
theorem hgS_w {V : HV} {S : SV} {m r : Nat} (hS : SR V S) (hr : r < V.1 0) : SW V (hgS m r S) := by
  refine ⟨fun t ht => ?_, ?_, fun k a b => ⟨?_, ?_⟩, fun k a b => ?_⟩
  · unfold hgS
    split
    · exact Or.inr ⟨r, hr, rfl⟩
    · exact Or.inr (hS.1 t ht)
  · rw [hgS_o (by omega)]; exact hS.w.2.1
  · rw [hgS_o (by omega)]; exact (hS.2.2.1 k a b).1
  · rw [hgS_o (by omega)]; exact (hS.2.2.1 k a b).2
  · rw [hgS_o (by omega)]; exact hS.2.2.2 k a b
theorem hangAll_spec {μ : fMem} {m r : Nat} : Ok (f_X7_hangAll 78 (nI m) (nI r) μ) (fun _ μ' => Kp [79] [] μ μ' ∧ ∀ j, j < 8 → μ'.1 79 j = if m.testBit j = true then nI r else μ.1 79 j) := by
  unfold f_X7_hangAll
  rw [Ok_bd]
  refine Ok.mono (Q := fun u (q : Int32 × fMem) => Kp [79] [] μ q.2 ∧ ∀ j, j < 8 → q.2.1 79 j = if m.testBit j = true then nI r else μ.1 79 j) (Ok_lp 8 (fun i (q : Int32 × fMem) => q.1 = nI i ∧ Kp [79] [] μ q.2 ∧ ∀ j, j < 8 → q.2.1 79 j = if j < i ∧ m.testBit j = true then nI r else μ.1 79 j) (by omega) ⟨rfl, Kp.rfl', fun j _ => by rw [if_neg (fun w => absurd w.1 (Nat.not_lt_zero j))]⟩ ?_) ?_
  · rintro i ⟨z, μ1⟩ hi ⟨hz, K1, e1⟩
    dsimp only at hz K1 e1 ⊢
    subst hz
    unfold f_X7_hangAll_L2
    simp only [Nat.reduceAdd]
    rcases Nat.lt_or_ge i 8 with q | q
    · rw [if_neg (show ¬ 8 ≤ nI i from nI_ge (b := 8) q (by omega))]
      by_cases c : nbit (nI m) i
      · have cb := (nbT q).mp c
        rw [if_pos c, Ok_vl, nI_1, Ok_some]
        refine Or.inl ⟨rfl, q, rfl, K1, fun j hj => ?_⟩
        dsimp only
        rw [e1 j hj]
        by_cases e : j = i
        · subst e; rw [cb, if_neg (fun w => by cases w.2), if_neg (fun w => by cases w.2)]
        · have : (j < i + 1 ∧ m.testBit j = true) ↔ (j < i ∧ m.testBit j = true) := ⟨fun w => ⟨by omega, w.2⟩, fun w => ⟨by omega, w.2⟩⟩
          simp only [this]
      · have cb : m.testBit i = true := by
          cases e : m.testBit i with
          | true => rfl
          | false => exact absurd ((nbT q).mpr e) c
        rw [if_neg c, gd_t (ixN q (by omega)), nI_clamp (by omega), Ok_vl, Ok_vl, nI_1, Ok_some]
        refine Or.inl ⟨rfl, q, rfl, K1.sI (by simp), fun j hj => ?_⟩
        dsimp only
        rw [sI_i]
        by_cases e : j = i
        · rw [if_pos ⟨rfl, e⟩, if_pos ⟨by omega, by rw [e]; exact cb⟩]
        · have : (j < i + 1 ∧ m.testBit j = true) ↔ (j < i ∧ m.testBit j = true) := ⟨fun w => ⟨by omega, w.2⟩, fun w => ⟨by omega, w.2⟩⟩
          rw [if_neg (fun w => e w.2), e1 j hj]
          simp only [this]
    · have : i = 8 := by omega
      subst this
      rw [if_pos (show 8 ≤ nI 8 by decide), Ok_some]
      refine Or.inr ⟨0, rfl, K1, fun j hj => ?_⟩
      rw [e1 j hj]
      simp only [hj, true_and]
  · rintro u ⟨z, μ1⟩ h
    exact Ok_some.mpr h
theorem hangC {μ μ' : fMem} {V : HV} {h : Nat} {S : SV} {g : Int32} {ts : Nat → Int32} {m r : Nat} (C : Crs μ V h 78 S g ts) (hS : SR V S) (hr : r < V.1 0) (hm : m < 2 ^ V.1 2) (K : Kp [79] [] μ μ') (e : ∀ j, j < 8 → μ'.1 79 j = if m.testBit j = true then nI r else μ.1 79 j) : Crs μ' V h 78 (hgS m r S) g ts := by
  obtain ⟨c1, c2, c3, c4, c5, c6⟩ := C
  have hh := c5.1
  have h8 : V.1 2 ≤ 8 := c1.2.2.1
  have zf : ∀ k, ¬ k = 79 → μ'.1 k = μ.1 k := fun k hk => K.2.1 k (by simpa using hk)
  refine ⟨c1, hgS_w hS hr, c3.of fun k a b => zf k (by rcases hh with rfl | rfl <;> omega), ?_, c5.of2 (fun j _ => by rw [zf 84 (by omega)]) (K.2.2 84 (List.not_mem_nil)) K.1 (hgS_o (by omega)), c6.of (zf 122 (by omega)) (K.2.2 121 (List.not_mem_nil))⟩
  obtain ⟨d1, d2, d3, d4, d5, d6, d7, d8⟩ := c4
  refine ⟨fun j hj => ?_, fun j hj => ?_, fun j hj => ?_, fun j hj => ?_, fun j hj => ?_, ?_, ?_, fun j a b => ?_⟩
  · rw [e j (by omega), d1 j hj]
    unfold hgS
    by_cases c : m.testBit j = true
    · rw [if_pos c, if_pos ⟨rfl, by omega, c⟩]
    · rw [if_neg c, if_neg (fun w => c w.2.2)]
  · rw [zf _ (by omega), hgS_o (by omega)]; exact d2 j hj
  · rw [zf _ (by omega), hgS_o (by omega)]; exact d3 j hj
  · rw [zf _ (by omega), hgS_o (by omega)]; exact d4 j hj
  · rw [zf _ (by omega), hgS_o (by omega)]; exact d5 j hj
  · rw [zf _ (by omega), hgS_o (by omega)]; exact d6
  · rw [zf _ (by omega), hgS_o (by omega)]; exact d7
  · have : m.testBit j = false := Nat.testBit_lt_two_pow (Nat.lt_of_lt_of_le hm (Nat.pow_le_pow_right (n := 2) (by decide) a))
    rw [e j b, this, if_neg (by decide)]; exact d8 j a b
def okS (V : HV) (S : SV) (d r m : Nat) : Bool := decide (nI m &&& thS V S (nI r) = 0) && decide (seatS V (glassS V (S 6 0)) (V.2.1 3) (hgS m r S) d = some r)
def fwI : Option Nat → Int32
  | none => 9
  | some b => bcS (nI b)
theorem stB_succ (ok : Nat → Bool) (m : Nat) : stB ok (m + 1) = match stB ok m with
    | none => if ok m = true then some m else none
    | some b => if ok m = true ∧ bcS (nI m) < bcS (nI b) then some m else some b := rfl
theorem stB_t {ok : Nat → Bool} {m : Nat} (h : ok m = true) (hb : bcS (nI m) < fwI (stB ok m)) : stB ok (m + 1) = some m := by
  rw [stB_succ]
  cases e : stB ok m with
  | none => rw [if_pos h]
  | some b => rw [e] at hb; exact if_pos ⟨h, hb⟩
theorem stB_f {ok : Nat → Bool} {m : Nat} (hm : m < 256) (h : ok m = false ∨ ¬ bcS (nI m) < fwI (stB ok m)) : stB ok (m + 1) = stB ok m := by
  rw [stB_succ]
  cases e : stB ok m with
  | none =>
    rw [e] at h
    rcases h with h | h
    · rw [h]; rfl
    · exact absurd (bcS_9 m hm) h
  | some b =>
    rw [e] at h
    rcases h with h | h
    · rw [h]; rfl
    · exact if_neg (fun w => h w.2)
theorem steerC {μ : fMem} {V : HV} {S : SV} {X : RX} {h d r : Nat} (hV : HW V) (hS : SR V S) (C : RC μ V S X h) (hd : d < V.1 3) (hr : r < V.1 0) : Ok (lpn (fun (q : Int32 × Int32 × Int32 × fMem) => f_X10_steer_L60 0 (nI d) (nI r) (thS V S (nI r)) q.1 q.2.1 q.2.2.1 q.2.2.2) fuel ((-2 : Int32), (9 : Int32), (0 : Int32), μ)) (fun _ q => q.1 = dI (stB (okS V S d r) (2 ^ V.1 2)) ∧ KE μ q.2.2.2 ∧ CC q.2.2.2 V) := by
  have h8 : V.1 2 ≤ 8 := hV.2.2.1
  have h6 : V.1 0 ≤ 6 := hV.1
  have p2 := p256 h8
  refine Ok_lp (2 ^ V.1 2) (fun m (q : Int32 × Int32 × Int32 × fMem) => q.2.2.1 = nI m ∧ q.1 = dI (stB (okS V S d r) m) ∧ q.2.1 = fwI (stB (okS V S d r) m) ∧ KE μ q.2.2.2 ∧ CC q.2.2.2 V) (by omega) ⟨rfl, rfl, rfl, KE.rfl', C.2.2.2.2.2.1⟩ ?_
  rintro m ⟨x, y, z, μ1⟩ hm ⟨hz, hx, hy, K1, cc1⟩
  dsimp only at hz hx hy K1 cc1 ⊢
  subst hz hx hy
  have R1 := C.ke K1 cc1
  unfold f_X10_steer_L60
  simp only [Nat.reduceAdd]
  rw [Ok_vl, R1.2.1, gd_t R1.kd, told2 R1.2.2.2.1, bd_some, shl_T _ h8]
  rcases Nat.lt_or_ge m (2 ^ V.1 2) with q | q
  · rw [if_neg (nI_ge q (by omega))]
    by_cases c1 : nI m &&& thS V S (nI r) = 0
    · rw [if_pos c1, bitCount_eq (show m < 256 by omega), bd_some]
      by_cases c2 : bcS (nI m) < fwI (stB (okS V S d r) m)
      · rw [if_pos c2, Ok_bd]
        refine (try_spec hV hS R1).mono ?_
        rintro - μ2 ⟨C2, P2, K2, -, -⟩
        rw [Ok_bd]
        refine hangAll_spec.mono ?_
        rintro - μ3 ⟨K3, e3⟩
        have C3 := hangC C2 hS hr q K3 e3
        have E3 : KE μ2 μ3 := KE.kp K3 (fun k hk => by rw [List.mem_singleton] at hk; omega)
        rw [Ok_bd]
        refine (seat_spec C3 hd).mono ?_
        rintro x μ4 ⟨rfl, K4⟩
        have KK : KE μ μ4 := ((K1.trans K2).trans E3).trans K4.e
        have iff1 : oI (seatS V (glassS V (S 6 0)) (V.2.1 3) (hgS m r S) d) = nI r ↔ seatS V (glassS V (S 6 0)) (V.2.1 3) (hgS m r S) d = some r := by
          cases hs : seatS V (glassS V (S 6 0)) (V.2.1 3) (hgS m r S) d with
          | none => exact ⟨fun w => absurd w.symm (nI_nm1 (by omega)), fun w => by cases w⟩
          | some a =>
            have := (bst_ok hs).1
            exact ⟨fun w => by rw [(nI_eq (by omega) (by omega)).mp w], fun w => by rw [Option.some.inj w]; rfl⟩
        by_cases c3 : seatS V (glassS V (S 6 0)) (V.2.1 3) (hgS m r S) d = some r
        · have ok : okS V S d r m = true := by unfold okS; rw [decide_eq_true c1, decide_eq_true c3]; rfl
          rw [if_pos (iff1.mpr c3), bitCount_eq (show m < 256 by omega), bd_some, Ok_vl, nI_1, Ok_some]
          exact Or.inl ⟨rfl, q, rfl, by rw [stB_t ok c2]; rfl, by rw [stB_t ok c2]; rfl, KK, K4.2⟩
        · have ok : okS V S d r m = false := by unfold okS; rw [decide_eq_false c3, Bool.and_false]
          rw [if_neg (fun w => c3 (iff1.mp w)), Ok_vl, nI_1, Ok_some]
          exact Or.inl ⟨rfl, q, rfl, by rw [stB_f (by omega) (Or.inl ok)], by rw [stB_f (by omega) (Or.inl ok)], KK, K4.2⟩
      · rw [if_neg c2, Ok_vl, nI_1, Ok_some]
        exact Or.inl ⟨rfl, q, rfl, by rw [stB_f (by omega) (Or.inr c2)], by rw [stB_f (by omega) (Or.inr c2)], K1, cc1⟩
    · have ok : okS V S d r m = false := by unfold okS; rw [decide_eq_false c1, Bool.false_and]
      rw [if_neg c1, Ok_vl, nI_1, Ok_some]
      exact Or.inl ⟨rfl, q, rfl, by rw [stB_f (by omega) (Or.inl ok)], by rw [stB_f (by omega) (Or.inl ok)], K1, cc1⟩
  · rw [if_pos (nI_le q (by omega)), Ok_some]
    have : m = 2 ^ V.1 2 := by omega
    subst this
    exact Or.inr ⟨0, rfl, rfl, K1, cc1⟩
def myS (V : HV) (S : SV) (r : Nat) : Int32 := orN (fun t => decide (¬ S 0 t = nI r)) (V.1 2)
theorem sub_my {V : HV} {S : SV} {r m : Nat} (h8 : V.1 2 ≤ 8) (hm : m < 2 ^ V.1 2) : nI m &&& (myS V S r ^^^ -1) = 0 ↔ nI m &&& thS V S (nI r) = 0 := by
  have p2 := p256 h8
  rw [sub0 (by omega), sub0 (by omega)]
  have lt : ∀ t, m.testBit t = true → t < V.1 2 := fun t hb => by
    rcases Nat.lt_or_ge t (V.1 2) with c | c
    · exact c
    · rw [Nat.testBit_lt_two_pow (Nat.lt_of_lt_of_le hm (Nat.pow_le_pow_right (n := 2) (by decide) c))] at hb; cases hb
  have key : ∀ t, t < V.1 2 → (nbit (myS V S r ^^^ -1) t ↔ nbit (thS V S (nI r)) t) := fun t ht => by
    rw [nbit_x (by omega)]
    unfold myS thS
    rw [orN_bit (by omega) _ h8, orN_bit (by omega) _ h8]
    simp [ht]
  exact ⟨fun h t ht hb => (key t (lt t hb)).mp (h t ht hb), fun h t ht hb => (key t (lt t hb)).mpr (h t ht hb)⟩
theorem le_my {V : HV} {S : SV} {r m mm : Nat} (h8 : V.1 2 ≤ 8) (hm : m < 2 ^ V.1 2) (e : myS V S r = nI mm) (hmm : mm < 256) (h : nI m &&& thS V S (nI r) = 0) : m ≤ mm := by
  have p2 := p256 h8
  have h := (sub0 (by omega)).mp ((sub_my h8 hm).mpr h)
  have e2 : m = m &&& mm := by
    refine Nat.eq_of_testBit_eq fun t => ?_
    rw [Nat.testBit_and]
    cases hb : m.testBit t with
    | false => rfl
    | true =>
      have ht : t < 8 := by
        rcases Nat.lt_or_ge t 8 with c | c
        · exact c
        · rw [Nat.testBit_lt_two_pow (Nat.lt_of_lt_of_le (show m < 2 ^ 8 by omega) (Nat.pow_le_pow_right (n := 2) (by decide) c))] at hb; cases hb
      have := (nbit_x ht).mp (h t ht hb)
      rw [e] at this
      cases hb2 : mm.testBit t with
      | true => rfl
      | false => exact absurd ((nbT ht).mpr hb2) this
  rw [e2]
  exact Nat.and_le_right
theorem hangM {ν : fMem} {V : HV} {S : SV} {g : Int32} {ts : Nat → Int32} {m r : Nat} (M : Mrs ν V 1 S g ts 0 (-1)) (hS : SR V S) (hr : r < V.1 0) (hm : m < 256) (v1 v3 v4 : Int32) : Ok (lpn (fun (q : Int32 × fMem) => f_X11_steer_L119 181 v1 (nI r) v3 v4 (nI m) q.1 q.2) fuel ((0 : Int32), ν)) (fun _ q => Mrs q.2 V 1 (hgS m r S) g ts 0 (-1) ∧ KX 1 ν q.2) := by
  have hV := M.1
  have h8 : V.1 2 ≤ 8 := hV.2.2.1
  refine Ok.mono (Q := fun u (q : Int32 × fMem) => Kx (fun c j => c = 206 ∧ 8 ≤ j ∧ j < 16) BN ν q.2 ∧ ∀ j, j < V.1 2 → q.2.1 206 (8 * 1 + j) = if m.testBit j = true then nI r else ν.1 206 (8 * 1 + j)) (Ok_lp (V.1 2) (fun i (q : Int32 × fMem) => q.1 = nI i ∧ Kx (fun c j => c = 206 ∧ 8 ≤ j ∧ j < 16) BN ν q.2 ∧ ∀ j, j < V.1 2 → q.2.1 206 (8 * 1 + j) = if j < i ∧ m.testBit j = true then nI r else ν.1 206 (8 * 1 + j)) (by omega) ⟨rfl, Kx.rfl', fun j _ => by rw [if_neg (fun w => absurd w.1 (Nat.not_lt_zero j))]⟩ ?_) ?_
  · rintro i ⟨z, ν1⟩ hi ⟨hz, K1, e1⟩
    dsimp only at hz K1 e1 ⊢
    subst hz
    have mH1 : MH ν1 V := M.2.2.1.of hV fun c a b j _ => K1.2.1 c j (by omega)
    unfold f_X11_steer_L119
    simp only [Nat.reduceAdd]
    rw [mH1.1 2 (by omega)]
    rcases Nat.lt_or_ge i (V.1 2) with q | q
    · rw [if_neg (nI_ge q (by omega)), shr_val (show i < 8 by omega)]
      by_cases c : nbit (nI m) i
      · have cb := (nbT (by omega)).mp c
        rw [if_pos c, if_neg (by decide), Ok_vl, nI_1, Ok_some]
        refine Or.inl ⟨rfl, q, rfl, K1, fun j hj => ?_⟩
        dsimp only
        rw [e1 j hj]
        by_cases e : j = i
        · subst e; rw [cb, if_neg (fun w => by cases w.2), if_neg (fun w => by cases w.2)]
        · have : (j < i + 1 ∧ m.testBit j = true) ↔ (j < i ∧ m.testBit j = true) := ⟨fun w => ⟨by omega, w.2⟩, fun w => ⟨by omega, w.2⟩⟩
          simp only [this]
      · have cb : m.testBit i = true := by
          cases e : m.testBit i with
          | true => rfl
          | false => exact absurd ((nbT (by omega)).mpr e) c
        rw [if_neg c, if_pos rfl, show (8 : Int32) + nI i = nI (8 * 1 + i) from nI_add 8 i, gd_t (ixN (by omega) (by omega)), nI_clamp (by omega), Ok_vl, Ok_vl, nI_1, Ok_some]
        refine Or.inl ⟨rfl, q, rfl, K1.sI ⟨rfl, by omega, by omega⟩, fun j hj => ?_⟩
        dsimp only
        rw [sI_i]
        by_cases e : j = i
        · rw [if_pos ⟨rfl, by omega⟩, if_pos ⟨by omega, by rw [e]; exact cb⟩]
        · have : (j < i + 1 ∧ m.testBit j = true) ↔ (j < i ∧ m.testBit j = true) := ⟨fun w => ⟨by omega, w.2⟩, fun w => ⟨by omega, w.2⟩⟩
          rw [if_neg (by omega), e1 j hj]
          simp only [this]
    · have : i = V.1 2 := by omega
      subst this
      rw [if_pos (nI_le q (by omega)), Ok_some]
      refine Or.inr ⟨0, rfl, K1, fun j hj => ?_⟩
      rw [e1 j hj]
      simp only [hj, true_and]
  · rintro u ⟨z, ν1⟩ ⟨K1, e1⟩
    dsimp only at K1 e1 ⊢
    obtain ⟨c1, c2, c3, c4, c5, c6⟩ := M
    refine ⟨⟨c1, hgS_w hS hr, c3.of c1 fun c a b j _ => K1.2.1 c j (by omega), ?_, c5.of (fun j a b => K1.2.1 181 j (by omega)) (hgS_o (by omega)), c6⟩, K1.wide (fun c j z => Or.inr (by unfold Px; omega)) (fun _ _ z => absurd z id)⟩
    obtain ⟨d1, d2, d3, d4, d5, d6, d7⟩ := c4
    refine ⟨fun j hj => ?_, fun j hj => ?_, fun j hj => ?_, fun j hj => ?_, fun j hj => ?_, ?_, ?_⟩
    · have := d1 j hj
      rw [if_neg (fun z => absurd z.1 (by decide))] at this ⊢
      rw [e1 j hj, this]
      unfold hgS
      by_cases c : m.testBit j = true
      · rw [if_pos c, if_pos ⟨rfl, by omega, c⟩]
      · rw [if_neg c, if_neg (fun w => c w.2.2)]
    · rw [K1.2.1 _ _ (by omega), hgS_o (by omega)]; exact d2 j hj
    · rw [K1.2.1 _ _ (by omega), hgS_o (by omega)]; exact d3 j hj
    · rw [K1.2.1 _ _ (by omega), hgS_o (by omega)]; exact d4 j hj
    · rw [K1.2.1 _ _ (by omega), hgS_o (by omega)]; exact d5 j hj
    · rw [K1.2.1 _ _ (by omega), hgS_o (by omega)]; exact d6
    · rw [K1.2.1 _ _ (by omega), hgS_o (by omega)]; exact d7
theorem steerM {ν : fMem} {V : HV} {S : SV} {X : RX} {d r mm : Nat} (hV : HW V) (hS : SR V S) (hX : XW V X) (M : RM ν V S X) (hd : d < V.1 3) (hr : r < V.1 0) (hmm : mm < 2 ^ V.1 2) (emm : myS V S r = nI mm) : Ok (lpn (fun (q : Int32 × Int32 × fMem) => f_X11_steer_L74 181 (nI d) (nI r) (nI mm) q.1 q.2.1 q.2.2) fuel ((-2 : Int32), (0 : Int32), ν)) (fun _ q => q.1 = dI (stB (okS V S d r) (mm + 1)) ∧ KR ν q.2.2) := by
  have h8 : V.1 2 ≤ 8 := hV.2.2.1
  have h6 : V.1 0 ≤ 6 := hV.1
  have p2 := p256 h8
  refine Ok_lp (mm + 1) (fun m (q : Int32 × Int32 × fMem) => q.2.1 = nI m ∧ q.1 = dI (stB (okS V S d r) m) ∧ KR ν q.2.2) (by omega) ⟨rfl, rfl, Kx.rfl'⟩ ?_
  rintro m ⟨x, z, ν1⟩ hm ⟨hz, hx, K1⟩
  dsimp only at hz hx K1 ⊢
  subst hz hx
  have M1 := M.kr hV hX K1
  unfold f_X11_steer_L74
  rcases Nat.lt_or_ge m (mm + 1) with q | q
  · rw [if_neg (nI_nlt (by omega) (by omega))]
    have sm := sub_my (V := V) (S := S) (r := r) h8 (show m < 2 ^ V.1 2 by omega)
    rw [emm] at sm
    by_cases c1 : nI m &&& (nI mm ^^^ -1) = 0
    · have c1' := sm.mp c1
      rw [if_pos c1]
      have go : bcS (nI m) < fwI (stB (okS V S d r) m) → Ok (f_X11_steer_j110 181 (nI d) (nI r) (nI mm) (dI (stB (okS V S d r) m)) (nI m) ν1) (fun u s' => (u = 0 ∧ m < mm + 1 ∧ s'.2.1 = nI (m + 1) ∧ s'.1 = dI (stB (okS V S d r) (m + 1)) ∧ KR ν s'.2.2) ∨ ∃ u1, u = u1 + 1 ∧ s'.1 = dI (stB (okS V S d r) (mm + 1)) ∧ KR ν s'.2.2) := by
        intro c2
        unfold f_X11_steer_j110
        rw [Ok_bd]
        refine (copyM hV hS hX M1).mono ?_
        rintro - ν2 ⟨P2, K2, M2⟩
        rw [Ok_bd]
        have M2s : Mrs ν2 V 1 S (glassS V (S 6 0)) (V.2.1 3) 0 (-1) := P2.s
        refine (hangM M2s hS hr (show m < 256 by omega) (nI d) (nI mm) _).mono ?_
        rintro u ⟨z3, ν3⟩ ⟨M3, K3⟩
        dsimp only at M3 K3 ⊢
        rw [Ok_bd]
        refine (seatOf_spec M3 hd).mono ?_
        rintro x ν4 ⟨rfl, K4⟩
        have KK : KR ν ν4 := ((K1.trans K2).trans K3.r).trans (KM.r K4)
        have iff1 : oI (seatS V (glassS V (S 6 0)) (V.2.1 3) (hgS m r S) d) = nI r ↔ seatS V (glassS V (S 6 0)) (V.2.1 3) (hgS m r S) d = some r := by
          cases hs : seatS V (glassS V (S 6 0)) (V.2.1 3) (hgS m r S) d with
          | none => exact ⟨fun w => absurd w.symm (nI_nm1 (by omega)), fun w => by cases w⟩
          | some a =>
            have := (bst_ok hs).1
            exact ⟨fun w => by rw [(nI_eq (by omega) (by omega)).mp w], fun w => by rw [Option.some.inj w]; rfl⟩
        by_cases c3 : seatS V (glassS V (S 6 0)) (V.2.1 3) (hgS m r S) d = some r
        · have ok : okS V S d r m = true := by unfold okS; rw [decide_eq_true c1', decide_eq_true c3]; rfl
          rw [if_pos (iff1.mpr c3), Ok_vl, nI_1, Ok_some]
          exact Or.inl ⟨rfl, q, rfl, by rw [stB_t ok c2]; rfl, KK⟩
        · have ok : okS V S d r m = false := by unfold okS; rw [decide_eq_false c3, Bool.and_false]
          rw [if_neg (fun w => c3 (iff1.mp w)), Ok_vl, nI_1, Ok_some]
          exact Or.inl ⟨rfl, q, rfl, by rw [stB_f (by omega) (Or.inl ok)], KK⟩
      cases e : stB (okS V S d r) m with
      | none =>
        rw [if_pos (show dI none < 0 by decide)]
        rw [e] at go
        exact go (bcS_9 m (by omega))
      | some b =>
        have hb := stB_lt e
        rw [e] at go
        rw [if_neg (show ¬ dI (some b) < 0 from nI_pos (by omega)), bitsOf_eq, bd_some, show f_X11_bitsOf (dI (some b)) ν1 = some (bcS (nI b), ν1) from bitsOf_eq _ _, bd_some]
        by_cases c2 : bcS (nI m) < bcS (nI b)
        · rw [if_pos c2]; exact go c2
        · rw [if_neg c2, Ok_vl, nI_1, Ok_some]
          exact Or.inl ⟨rfl, q, rfl, by rw [stB_f (by omega) (Or.inr (by rw [e]; exact c2)), e], K1⟩
    · have ok : okS V S d r m = false := by unfold okS; rw [decide_eq_false (fun w => c1 (sm.mpr w)), Bool.false_and]
      rw [if_neg c1, Ok_vl, nI_1, Ok_some]
      exact Or.inl ⟨rfl, q, rfl, by rw [stB_f (by omega) (Or.inl ok)], K1⟩
  · rw [if_pos (nI_lt (by omega) (by omega)), Ok_some]
    have : m = mm + 1 := by omega
    subst this
    exact Or.inr ⟨0, rfl, rfl, K1⟩
theorem sim_steer (a b : Int32) : Sim Rel (f_X10_steer 0 a b) (f_X11_steer 181 a b) := by
  refine simQ fun μ ν V S X h hV hS hX C M => ?_
  have cc := C.2.2.2.2.2.1
  have h6 : V.1 0 ≤ 6 := hV.1
  have h8 : V.1 2 ≤ 8 := hV.2.2.1
  have hd6 : V.1 3 ≤ 6 := hV.2.2.2.1
  by_cases ca : hs (V.1 3) a
  rotate_left
  · refine ⟨-1, ?_, ?_⟩
    · unfold f_X10_steer
      refine qc_h C ?_
      rw [has3 C.2.2.2.1, bd_some, if_neg ca, if_pos rfl]; exact qc_some cc
    · unfold f_X11_steer
      refine qm_th hV hX M fun ν1 K M => ?_
      rw [isDead_eq M.1, bd_some, if_neg ca, if_pos rfl]; exact qm_some K
  by_cases cb : hs (V.1 0) b
  rotate_left
  · refine ⟨-1, ?_, ?_⟩
    · unfold f_X10_steer
      refine qc_h C ?_
      rw [has3 C.2.2.2.1, bd_some, if_pos ca, if_neg (by decide)]
      refine qc_h C ?_
      rw [has0 C.2.2.2.1, bd_some, if_neg cb, if_pos rfl]; exact qc_some cc
    · unfold f_X11_steer
      refine qm_th hV hX M fun ν1 K M => ?_
      rw [isDead_eq M.1, bd_some, if_pos ca, if_neg (by decide), isRoom_eq M.1, bd_some, if_neg cb, if_pos rfl]; exact qm_some K
  obtain ⟨d, hd, rfl⟩ := hs_ex ca (by omega)
  obtain ⟨r, hr, rfl⟩ := hs_ex cb (by omega)
  obtain ⟨mm, hmm, emm, -⟩ := orN_val (fun t => decide (¬ S 0 t = nI r)) (V.1 2) h8
  have emm : myS V S r = nI mm := emm
  have p2 := p256 h8
  have same : stB (okS V S d r) (2 ^ V.1 2) = stB (okS V S d r) (mm + 1) := stB_no (by omega) (fun i h1 h2 => by
    unfold okS
    rw [decide_eq_false (fun w => by have := le_my h8 h2 emm (by omega) w; omega), Bool.false_and])
  refine ⟨dI (stB (okS V S d r) (mm + 1)), ?_, ?_⟩
  · unfold f_X10_steer
    refine qc_h C ?_
    rw [has3 C.2.2.2.1, bd_some, if_pos ca, if_neg (by decide)]
    refine qc_h C ?_
    simp only [Nat.reduceAdd]
    rw [has0 C.2.2.2.1, bd_some, if_pos cb, if_neg (by decide), isRoped_eq, bd_some, C.2.2.2.2.1.2.2.2.2.2.1]
    by_cases rp : nbit (S 5 0) r
    · rw [if_pos rp, if_pos rfl, thingsInC_eq h8 C.2.2.2.2.1 r (by omega), bd_some]
      refine Ok_bd.mpr ((steerC hV hS C hd hr).mono ?_)
      rintro u ⟨x, y, z, μ1⟩ ⟨hx, K1, cc1⟩
      exact Ok_some.mpr ⟨by rw [← same]; exact hx, K1, cc1⟩
    · have none1 : stB (okS V S d r) (mm + 1) = none := by
        have := stB_no (ok := okS V S d r) (m := 0) (n := mm + 1) (by omega) (fun i _ _ => by
          unfold okS
          rw [decide_eq_false (p := seatS V (glassS V (S 6 0)) (V.2.1 3) (hgS i r S) d = some r) (fun w => ?_), Bool.and_false]
          have := (bst_ok w).2
          rw [hgS_o (by omega)] at this
          exact rp this)
        rw [this]; rfl
      rw [if_neg rp, if_neg (by decide), none1]
      exact qc_some cc
  · unfold f_X11_steer
    refine qm_th hV hX M fun ν1 K M => ?_
    rw [isDead_eq M.1, bd_some, if_pos ca, if_neg (by decide), isRoom_eq M.1, bd_some, if_pos cb, if_neg (by decide)]
    refine Ok_bd.mpr ?_
    refine Ok.mono (Q := fun u (q : Int32 × Int32 × fMem) => q.1 = myS V S r ∧ q.2.2 = ν1) (Ok_lp (V.1 2) (fun i (q : Int32 × Int32 × fMem) => q.2.1 = nI i ∧ q.1 = orN (fun t => decide (¬ S 0 t = nI r)) i ∧ q.2.2 = ν1) (by omega) ⟨rfl, rfl, rfl⟩ ?_) ?_
    · rintro i ⟨x, z, ν2⟩ hi ⟨hz, hx, hm⟩
      dsimp only at hz hx hm ⊢
      subst hz hx hm
      unfold f_X11_steer_L28
      simp only [Nat.reduceAdd]
      rw [M.1.1 2 (by omega)]
      rcases Nat.lt_or_ge i (V.1 2) with q | q
      · have e := M.2.1.1 i q
        rw [if_neg (fun z => absurd z.1 (by decide)), show 8 * 0 + i = i by omega] at e
        rw [if_neg (nI_ge q (by omega)), gd_t (ixN (by omega) (by omega)), nI_clamp (by omega), e]
        by_cases c : S 0 i = nI r
        · rw [if_pos c, Ok_vl, Ok_vl, nI_1, Ok_some]
          exact Or.inl ⟨rfl, q, rfl, by rw [orN_succ, if_neg (by simp [c])]; exact Int32.or_zero, rfl⟩
        · rw [if_neg c, Ok_vl, Ok_vl, nI_1, Ok_some]
          exact Or.inl ⟨rfl, q, rfl, by rw [orN_succ, if_pos (decide_eq_true c)], rfl⟩
      · rw [if_pos (nI_le q (by omega)), Ok_some]
        have : i = V.1 2 := by omega
        subst this
        exact Or.inr ⟨0, rfl, rfl, rfl⟩
    · rintro u ⟨x, z, ν2⟩ ⟨hx, hm⟩
      dsimp only at hx hm ⊢
      subst hm
      rw [hx, emm, Ok_bd]
      refine (steerM hV hS hX M hd hr hmm emm).mono ?_
      rintro u2 ⟨y, w, ν3⟩ ⟨hy, K3⟩
      exact Ok_some.mpr ⟨hy, K.trans K3⟩
end Sim18
