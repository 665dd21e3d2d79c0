/-! calls that change: the tape, notes, images -/
section Sim6
abbrev RCo {α : Type} (x : Option (α × fMem)) (V : HV) (S : SV) (X : RX) (h : Nat) (a : α) : Prop := Ok x (fun r μ' => r = a ∧ RC μ' V S X h)
abbrev RMo {α : Type} (x : Option (α × fMem)) (V : HV) (S : SV) (X : RX) (a : α) : Prop := Ok x (fun r ν' => r = a ∧ RM ν' V S X)
theorem simX {α : Type} {f g : fMem → Option (α × fMem)} (H : ∀ μ ν V S X h, HW V → SR V S → XW V X → RC μ V S X h → RM ν V S X → ∃ a S' X', SR V S' ∧ XW V X' ∧ RCo (f μ) V S' X' h a ∧ RMo (g ν) V S' X' a) : Sim Rel f g := by
  rintro μ ν ⟨V, S, X, h, hV, hS, hX, hC, hM⟩
  obtain ⟨a, S', X', hS', hX', ⟨r, μ', e1, rfl, k1⟩, ⟨r', ν', e2, rfl, k3⟩⟩ := H μ ν V S X h hV hS hX hC hM
  exact ⟨r', μ', ν', e1, e2, V, S', X', h, hV, hS', hX', k1, k3⟩
theorem rcq {α : Type} {μ : fMem} {V : HV} {S : SV} {X : RX} {h : Nat} {a : α} (C : RC μ V S X h) : RCo (some (a, μ)) V S X h a := Ok_some.mpr ⟨rfl, C⟩
theorem rmq {α : Type} {ν : fMem} {V : HV} {S : SV} {X : RX} {a : α} (M : RM ν V S X) : RMo (some (a, ν)) V S X a := Ok_some.mpr ⟨rfl, M⟩
theorem rm_th {ν : fMem} {V : HV} {S : SV} {X : RX} (hV : HW V) (hX : XW V X) (M : RM ν V S X) : RM (sI ν 181 0 0) V S X := M.kr hV hX (KR.thrown 0)
theorem rc_h {α : Type} {μ : fMem} {V : HV} {S : SV} {X : RX} {h : Nat} {k : Nat → Option (α × fMem)} {Q : α → fMem → Prop} (C : RC μ V S X h) (H : Ok (k h) Q) : Ok (vl (μ.2.2 0 2) fun x => gd (kd x = (4, 2)) (k x)) Q := by
  show Ok (gd (kd (μ.2.2 0 2) = (4, 2)) (k (μ.2.2 0 2))) _
  rw [C.2.1, gd_t C.kd]
  exact H
theorem RC.to {μ μ' : fMem} {V : HV} {S S' : SV} {X X' : RX} {h : Nat} (H : RC μ V S X h) (K1 : ∀ k, (2 ≤ k ∧ k < 66) ∨ k = 122 → μ'.1 k = μ.1 k) (K2 : μ'.2.1 121 = μ.2.1 121) (K3 : ∀ k j, k < 66 → μ'.2.2 k j = μ.2.2 k j) (cS : CS μ' 66 V S') (cI : CI μ' V X'.1) (cT : μ'.1 130 0 = nI X'.2.1.length ∧ CTr μ' X'.2.1) (cN : CN μ' X'.2.2.1) (cF : μ'.1 0 1 = nI X'.2.2.2.1.1 ∧ ∀ j, j < X'.2.2.2.1.1 → μ'.1 1 j = X'.2.2.2.1.2 j) (f : X'.2.2.2.2 = X.2.2.2.2) : RC μ' V S' X' h := by
  obtain ⟨h1, h2, h3, h4, h5, h6, h7, h8, h9, h10, h11, h12, h13⟩ := H
  refine ⟨h1, by rw [K3 0 2 (by omega)]; exact h2, by rw [K3 30 3 (by omega)]; exact h3, h4.of fun k a b => K1 k (by rcases h1 with rfl | rfl <;> omega), cS, h6.of (K1 122 (by omega)) K2, cI, cT, cN, cF, ?_, ?_, ?_⟩
  · rw [K1 30 (by omega), f]; exact h11
  · rw [K1 30 (by omega), f]; exact h12
  · rw [K1 32 (by omega)]; exact h13
theorem RM.to {ν ν' : fMem} {V : HV} {S S' : SV} {X X' : RX} (hV : HW V) (H : RM ν V S X) (K1 : ∀ c j, 183 ≤ c → c ≤ 200 → ν'.1 c j = ν.1 c j) (K2 : ∀ j, j = 30 ∨ j = 31 ∨ (47 ≤ j ∧ j ≤ 50) → ν'.1 181 j = ν.1 181 j) (mS : MSt ν' 0 V S' 0 (-1)) (mI : MI ν' V X'.1) (mU : ν'.1 181 46 = nI X'.2.1.length ∧ MUr ν' V S' X'.2.1) (mN : MN ν' X'.2.2.1) (mF : ν'.1 181 2 = nI X'.2.2.2.1.1 ∧ ∀ j, j < X'.2.2.2.1.1 → ν'.1 182 j = X'.2.2.2.1.2 j) (f : X'.2.2.2.2 = X.2.2.2.2) : RM ν' V S' X' := by
  obtain ⟨h1, h2, h3, h4, h5, h6, h7, h8, h9⟩ := H
  refine ⟨h1.of hV (fun c a b j _ => K1 c j a b), mS, ?_, mI, mU, mN, mF, by rw [K2 30 (by omega), f]; exact h8, by rw [K2 31 (by omega), f]; exact h9⟩
  unfold MZ at h3 ⊢
  rw [K2 47 (by omega), K2 48 (by omega), K2 49 (by omega), K2 50 (by omega)]
  exact h3
theorem lpn_0 {σ : Type} {b : σ → Option (Nat × σ)} {s s' : σ} {n : Nat} (h : b s = some (0, s')) : lpn b (n + 1) s = lpn b n s' := by
  show (match b s with | none => none | some (0, s') => lpn b n s' | some (t + 1, s') => some (t, s')) = _
  rw [h]
/-- a byte of a number -/
def byt (v : Int32) (i : Nat) : Int32 := ushr v (24 - 8 * nI i) &&& 255
theorem b255 (x : Int32) : Upto 255 (x &&& 255) := by
  refine ⟨(x &&& 255).toBitVec.toNat, ?_, ?_⟩
  · rw [Int32.toBitVec_and, BitVec.toNat_and]
    have : (255 : Int32).toBitVec.toNat = 255 := by decide
    rw [this]
    exact Nat.and_le_right
  · refine Int32.toBitVec_inj.mp ?_
    show _ = BitVec.ofNat 32 _
    rw [BitVec.ofNat_toNat, BitVec.setWidth_eq]
theorem byt_shr (v : Int32) {i : Nat} (hi : i < 4) : shr v (24 - 8 * nI i) &&& 255 = byt v i := by
  have hs : ∃ s : Nat, s ≤ 24 ∧ (24 - 8 * nI i : Int32) = nI s ∧ ((24 - 8 * nI i : Int32).toUInt32 &&& Int32.toUInt32 31) = UInt32.ofNat s := by
    match i, hi with
    | 0, _ => exact ⟨24, by decide, by decide, by decide⟩
    | 1, _ => exact ⟨16, by decide, by decide, by decide⟩
    | 2, _ => exact ⟨8, by decide, by decide, by decide⟩
    | 3, _ => exact ⟨0, by decide, by decide, by decide⟩
  obtain ⟨s, hs, e, e2⟩ := hs
  unfold byt ushr
  rw [e2, e]
  refine Int32.toBitVec_inj.mp ?_
  rw [Int32.toBitVec_and, Int32.toBitVec_and, shr_bv (by omega)]
  have e3 : (v.toUInt32 >>> UInt32.ofNat s).toInt32.toBitVec = v.toBitVec >>> s := by
    show (v.toUInt32 >>> UInt32.ofNat s).toBitVec = _
    rw [UInt32.toBitVec_shiftRight]
    have : ((UInt32.ofNat s).toBitVec % 32).toNat = s := by
      show ((UInt32.ofNat s).toBitVec % 32#32).toNat = s
      rw [BitVec.toNat_umod]
      show (BitVec.ofNat 32 s).toNat % 32 = s
      rw [BitVec.toNat_ofNat]
      omega
    show v.toUInt32.toBitVec >>> _ = _
    rw [BitVec.ushiftRight_eq', this]
    rfl
  rw [e3]
  refine BitVec.eq_of_getLsbD_eq fun j hj => ?_
  rw [BitVec.getLsbD_and, BitVec.getLsbD_and, BitVec.getLsbD_sshiftRight, BitVec.getLsbD_ushiftRight]
  by_cases hj8 : j < 8
  · have h1 : ¬ (32 ≤ j) := by omega
    have h2 : s + j < 32 := by omega
    simp [h1, h2]
  · have : (255 : Int32).toBitVec.getLsbD j = false := by
      show (BitVec.ofNat 32 255).getLsbD j = false
      rw [BitVec.getLsbD_ofNat]
      have : Nat.testBit 255 j = false := Nat.testBit_lt_two_pow (Nat.lt_of_lt_of_le (by decide : 255 < 2 ^ 8) (Nat.pow_le_pow_right (by decide) (by omega)))
      rw [this, Bool.and_false]
    rw [this, Bool.and_false, Bool.and_false]
theorem sh_tab : ∀ i, i < 4 → ¬ ((24 : Int32) - 8 * nI i < 0) ∧ (24 - 8 * nI i : Int32) + (-8) = 24 - 8 * nI (i + 1) := by decide +kernel
theorem putFour_spec {μ : fMem} {n : Nat} {T : Nat → Int32} (v : Int32) (hn : n + 4 ≤ 700) (h1 : μ.1 0 1 = nI n) (hT : ∀ j, j < n → μ.1 1 j = T j) (hv : ∀ i, i < 4 → T (n + i) = byt v i) : Ok (f_X10_putFour 0 v μ) (fun _ μ' => Kp [0, 1] [] μ μ' ∧ (∀ j, ¬ j = 1 → μ'.1 0 j = μ.1 0 j) ∧ μ'.1 0 1 = nI (n + 4) ∧ ∀ j, j < n + 4 → μ'.1 1 j = T j) := by
  unfold f_X10_putFour
  rw [Ok_bd]
  refine Ok.mono (Q := fun u (q : Int32 × fMem) => Kp [0, 1] [] μ q.2 ∧ (∀ j, ¬ j = 1 → q.2.1 0 j = μ.1 0 j) ∧ q.2.1 0 1 = nI (n + 4) ∧ ∀ j, j < n + 4 → q.2.1 1 j = T j) (Ok_lp 4 (fun i (q : Int32 × fMem) => q.1 = 24 - 8 * nI i ∧ Kp [0, 1] [] μ q.2 ∧ (∀ j, ¬ j = 1 → q.2.1 0 j = μ.1 0 j) ∧ q.2.1 0 1 = nI (n + i) ∧ ∀ j, j < n + i → q.2.1 1 j = T j) (by omega) ⟨rfl, Kp.rfl', fun _ _ => rfl, h1, hT⟩ ?_) ?_
  · rintro i ⟨z, μ1⟩ hi ⟨hz, K, k0, k1, kT⟩
    dsimp only at hz K k0 k1 kT ⊢
    subst hz
    unfold f_X10_putFour_L3
    rcases Nat.lt_or_ge i 4 with q | q
    · obtain ⟨s1, s2⟩ := sh_tab i q
      simp only [Nat.reduceAdd]
      rw [if_neg s1, k1, if_neg (nI_pos (by omega)), if_neg (show ¬ 700 ≤ nI (n + i) from nI_ge (b := 700) (by omega) (by omega)), gd_t (ixN (by omega) (by omega)), nI_clamp (by omega), Ok_vl, Ok_vl, Ok_vl, s2, Ok_some]
      refine Or.inl ⟨rfl, q, rfl, (K.sI (by simp)).sI (by simp), fun j hj => ?_, ?_, fun j hj => ?_⟩
      · rw [sI_i, if_neg (by omega), sI_i, if_neg (by omega)]; exact k0 j hj
      · rw [sI_i, if_pos ⟨rfl, rfl⟩, sI_i, if_neg (by omega), k1, nI_1]; rfl
      · rw [sI_i, if_neg (by omega), sI_i]
        by_cases e : j = n + i
        · rw [if_pos ⟨rfl, e⟩, e, hv i q]; rfl
        · rw [if_neg (fun w => e w.2)]; exact kT j (by omega)
    · have : i = 4 := by omega
      subst this
      rw [if_pos (show (24 : Int32) - 8 * nI 4 < 0 by decide), Ok_some]
      exact Or.inr ⟨0, rfl, K, k0, k1, kT⟩
  · rintro u ⟨z, μ1⟩ h
    exact Ok_some.mpr h
def sel5 (a b c d e : Int32) (m : Nat) : Int32 := if m = 0 then a else if m = 1 then b else if m = 2 then c else if m = 3 then d else e
def fdT (a b c d e : Int32) (n : Nat) (T : Nat → Int32) (j : Nat) : Int32 := if j < n then T j else byt (sel5 a b c d e ((j - n) / 4)) ((j - n) % 4)
theorem fdT_at (a b c d e : Int32) (n : Nat) (T : Nat → Int32) {m i : Nat} (hi : i < 4) : fdT a b c d e n T (n + 4 * m + i) = byt (sel5 a b c d e m) i := by
  unfold fdT
  rw [if_neg (by omega), show n + 4 * m + i - n = 4 * m + i by omega, show (4 * m + i) / 4 = m by omega, show (4 * m + i) % 4 = i by omega]
theorem fdT_old (a b c d e : Int32) {n : Nat} (T : Nat → Int32) {j : Nat} (h : j < n) : fdT a b c d e n T j = T j := by unfold fdT; rw [if_pos h]
theorem CI.ofs {μ μ' : fMem} {V : HV} (e0 : μ'.1 0 6 = μ.1 0 6) (e : ∀ k, 72 ≤ k → k < 78 → μ'.1 k = μ.1 k) : ∀ {I : Option SV}, CI μ V I → CI μ' V I
  | none, h => by unfold CI at h ⊢; rw [e0]; exact h
  | some I, h => by unfold CI at h ⊢; rw [e0]; exact ⟨h.1, h.2.of fun k a b => e k (by omega) (by omega)⟩
theorem sim_feed (a b c d e : Int32) : Sim Rel (f_X10_feed 0 a b c d e) (f_X11_feed 181 a b c d e) := by
  refine simX fun μ ν V S X h hV hS hX C M => ?_
  obtain ⟨XI, XT, XN, ⟨n, T⟩, XF⟩ := X
  have h7 : n ≤ 700 := hX.2.2.2.1
  have c10 := C.2.2.2.2.2.2.2.2.2.1
  have m7 := M.2.2.2.2.2.2.1
  dsimp only at c10 m7
  by_cases hn : n + 20 ≤ 700
  · refine ⟨nI (n + 20), S, (XI, XT, XN, (n + 20, fdT a b c d e n T), XF), hS, ⟨hX.1, hX.2.1, hX.2.2.1, hn, fun j hj => ?_⟩, ?_, ?_⟩
    · dsimp only at hj ⊢
      unfold fdT
      split
      · exact hX.2.2.2.2 j (by assumption)
      · exact b255 _
    · unfold f_X10_feed
      rw [c10.1, show nI n + 20 = nI (n + 20) from nI_add n 20, if_pos (show nI (n + 20) ≤ 700 from nI_le (b := 700) hn (by omega))]
      refine Ok_bd.mpr ((putFour_spec (T := fdT a b c d e n T) a (by omega) c10.1 (fun j hj => by rw [fdT_old _ _ _ _ _ _ hj]; exact c10.2 j hj) (fun i hi => fdT_at a b c d e n T (m := 0) hi)).mono ?_)
      rintro - μ1 ⟨K1, a1, b1, t1⟩
      refine Ok_bd.mpr ((putFour_spec (T := fdT a b c d e n T) (n := n + 4) b (by omega) b1 t1 (fun i hi => fdT_at a b c d e n T (m := 1) hi)).mono ?_)
      rintro - μ2 ⟨K2, a2, b2, t2⟩
      refine Ok_bd.mpr ((putFour_spec (T := fdT a b c d e n T) (n := n + 4 + 4) c (by omega) b2 t2 (fun i hi => by rw [show n + 4 + 4 + i = n + 4 * 2 + i by omega]; exact fdT_at a b c d e n T (m := 2) hi)).mono ?_)
      rintro - μ3 ⟨K3, a3, b3, t3⟩
      refine Ok_bd.mpr ((putFour_spec (T := fdT a b c d e n T) (n := n + 4 + 4 + 4) d (by omega) b3 t3 (fun i hi => by rw [show n + 4 + 4 + 4 + i = n + 4 * 3 + i by omega]; exact fdT_at a b c d e n T (m := 3) hi)).mono ?_)
      rintro - μ4 ⟨K4, a4, b4, t4⟩
      refine Ok_bd.mpr ((putFour_spec (T := fdT a b c d e n T) (n := n + 4 + 4 + 4 + 4) e (by omega) b4 t4 (fun i hi => by rw [show n + 4 + 4 + 4 + 4 + i = n + 4 * 4 + i by omega]; exact fdT_at a b c d e n T (m := 4) hi)).mono ?_)
      rintro - μ5 ⟨K5, a5, b5, t5⟩
      have K := (((K1.trans K2).trans K3).trans K4).trans K5
      have a6 : ∀ j, ¬ j = 1 → μ5.1 0 j = μ.1 0 j := fun j hj => (a5 j hj).trans ((a4 j hj).trans ((a3 j hj).trans ((a2 j hj).trans (a1 j hj))))
      rw [b5]
      refine Ok_some.mpr ⟨rfl, ?_⟩
      have kk : ∀ k, 2 ≤ k → μ5.1 k = μ.1 k := fun k hk => K.2.1 k (by simp; omega)
      exact C.to (fun k hk => kk k (by omega)) (K.2.2 121 (List.not_mem_nil)) (fun k j _ => K.r k j) (C.2.2.2.2.1.of fun k a b => kk k (by omega)) (CI.ofs (a6 6 (by omega)) (fun k a b => kk k (by omega)) C.2.2.2.2.2.2.1) ⟨by rw [kk 130 (by omega)]; exact C.2.2.2.2.2.2.2.1.1, CTr.of (fun k a b => kk k (by omega)) C.2.2.2.2.2.2.2.1.2⟩ (CN.of (fun k a b => kk k (by omega)) C.2.2.2.2.2.2.2.2.1) ⟨b5, t5⟩ rfl
    · unfold f_X11_feed
      have M0 := rm_th hV hX M
      show Ok _ _
      rw [Ok_vl]
      generalize sI ν 181 0 0 = ν0 at M0 ⊢
      have m7 := M0.2.2.2.2.2.2.1
      dsimp only at m7
      rw [m7.1, if_pos (show nI n ≤ 680 from nI_le (b := 680) (by omega) (by omega)), Ok_bd]
      refine Ok.mono (Q := fun u (q : Int32 × fMem) => Kx (fun k _ => k = 182) BN ν0 q.2 ∧ ∀ j, j < n + 20 → q.2.1 182 j = fdT a b c d e n T j) (Ok_lp 20 (fun i (q : Int32 × fMem) => q.1 = nI i ∧ Kx (fun k _ => k = 182) BN ν0 q.2 ∧ ∀ j, j < n + i → q.2.1 182 j = fdT a b c d e n T j) (by omega) ⟨rfl, Kx.rfl', fun j hj => by rw [fdT_old _ _ _ _ _ _ (show j < n from hj)]; exact m7.2 j hj⟩ ?_) ?_
      · rintro i ⟨z, ν1⟩ hi ⟨hz, K1, t1⟩
        dsimp only at hz K1 t1 ⊢
        subst hz
        unfold f_X11_feed_L20
        rcases Nat.lt_or_ge i 20 with q | q
        · have go : ∀ t0 : Int32, t0 = sel5 a b c d e (i / 4) → Ok (f_X11_feed_j73 181 a b c d e (nI i) t0 ν1) (fun t s' => (t = 0 ∧ i < 20 ∧ s'.1 = nI (i + 1) ∧ Kx (fun k _ => k = 182) BN ν0 s'.2 ∧ ∀ j, j < n + (i + 1) → s'.2.1 182 j = fdT a b c d e n T j) ∨ ∃ u, t = u + 1 ∧ Kx (fun k _ => k = 182) BN ν0 s'.2 ∧ ∀ j, j < n + 20 → s'.2.1 182 j = fdT a b c d e n T j) := by
            rintro t0 rfl
            unfold f_X11_feed_j73
            simp only [Nat.reduceAdd]
            rw [show ν1.1 181 2 = nI n by rw [K1.2.1 181 2 (by omega)]; exact m7.1, nI_add, gd_t (ixN (by omega) (by omega)), nI_clamp (by omega), Ok_vl, Ok_vl, nI_1, Ok_some, show (4 : Int32) = nI 4 from rfl, irm_nI (by omega) (by omega) (by omega), byt_shr _ (show i % 4 < 4 by omega)]
            refine Or.inl ⟨rfl, q, rfl, K1.sI rfl, fun j hj => ?_⟩
            rw [sI_i]
            by_cases e : j = n + i
            · rw [if_pos ⟨rfl, e⟩, e]
              unfold fdT
              rw [if_neg (by omega), show n + i - n = i by omega]
            · rw [if_neg (fun w => e w.2)]; exact t1 j (by omega)
          rw [if_neg (show ¬ 20 ≤ nI i from nI_ge (b := 20) q (by omega))]
          by_cases c1 : i < 4
          · rw [if_neg (show ¬ 4 ≤ nI i from nI_ge (b := 4) c1 (by omega))]
            exact go a (by rw [show i / 4 = 0 by omega]; rfl)
          · rw [if_pos (show 4 ≤ nI i from nI_le (a := 4) (by omega) (by omega))]
            by_cases c2 : i < 8
            · rw [if_neg (show ¬ 8 ≤ nI i from nI_ge (b := 8) c2 (by omega))]
              exact go b (by rw [show i / 4 = 1 by omega]; rfl)
            · rw [if_pos (show 8 ≤ nI i from nI_le (a := 8) (by omega) (by omega))]
              by_cases c3 : i < 12
              · rw [if_neg (show ¬ 12 ≤ nI i from nI_ge (b := 12) c3 (by omega))]
                exact go c (by rw [show i / 4 = 2 by omega]; rfl)
              · rw [if_pos (show 12 ≤ nI i from nI_le (a := 12) (by omega) (by omega))]
                by_cases c4 : i < 16
                · rw [if_neg (show ¬ 16 ≤ nI i from nI_ge (b := 16) c4 (by omega))]
                  exact go d (by rw [show i / 4 = 3 by omega]; rfl)
                · rw [if_pos (show 16 ≤ nI i from nI_le (a := 16) (by omega) (by omega))]
                  exact go e (by rw [show i / 4 = 4 by omega]; rfl)
        · have : i = 20 := by omega
          subst this
          rw [if_pos (show 20 ≤ nI 20 by decide), Ok_some]
          exact Or.inr ⟨0, rfl, K1, t1⟩
      · rintro u ⟨z, ν1⟩ ⟨K1, t1⟩
        dsimp only at K1 t1 ⊢
        rw [Ok_vl, K1.2.1 181 2 (by omega), m7.1, show nI n + 20 = nI (n + 20) from nI_add n 20]
        have e2 : (sI ν1 181 2 (nI (n + 20))).1 181 2 = nI (n + 20) := by rw [sI_i, if_pos ⟨rfl, rfl⟩]
        rw [e2]
        refine Ok_some.mpr ⟨rfl, ?_⟩
        have kk : ∀ c j, ¬ c = 182 → ¬ (c = 181 ∧ j = 2) → (sI ν1 181 2 (nI (n + 20))).1 c j = ν0.1 c j := fun c j h1 h2 => by rw [sI_i, if_neg h2]; exact K1.2.1 c j h1
        have v8 : V.1 2 ≤ 8 := hV.2.2.1
        refine M0.to hV (fun c j a b => kk c j (by omega) (by omega)) (fun j hj => kk _ _ (by omega) (by omega)) (M0.2.1.of v8 (fun c a b j hj => kk _ _ (by omega) (by omega)) (fun c a b j hj => kk _ _ (by omega) (by omega)) (kk _ _ (by omega) (by omega)) (kk _ _ (by omega) (by omega))) (MI.of v8 (kk _ _ (by omega) (by omega)) (fun c j q => kk c j (by unfold Px at q; omega) (by unfold Px at q; omega)) M0.2.2.2.1) ⟨by rw [kk _ _ (by omega) (by omega)]; exact M0.2.2.2.2.1.1, MUr.of v8 (fun c y j a b q => kk c j (by unfold Px at q; omega) (by unfold Px at q; omega)) hX.2.1.1 M0.2.2.2.2.1.2⟩ (MN.of (fun j a b => kk _ _ (by omega) (by omega)) (fun c j a b => kk _ _ (by omega) (by omega)) M0.2.2.2.2.2.1) ⟨e2, fun j hj => ?_⟩ rfl
        rw [sI_i, if_neg (by omega)]
        exact t1 j hj
  · refine ⟨-1, S, (XI, XT, XN, (n, T), XF), hS, hX, ?_, ?_⟩
    · unfold f_X10_feed
      rw [c10.1, show nI n + 20 = nI (n + 20) from nI_add n 20, if_neg (show ¬ nI (n + 20) ≤ 700 from nI_ge (a := 700) (by omega) (by omega))]
      exact rcq C
    · unfold f_X11_feed
      have M0 := rm_th hV hX M
      show Ok _ _
      rw [Ok_vl]
      generalize sI ν 181 0 0 = ν0 at M0 ⊢
      have m7 := M0.2.2.2.2.2.2.1
      dsimp only at m7
      rw [m7.1, if_neg (show ¬ nI n ≤ 680 from nI_ge (a := 680) (by omega) (by omega))]
      exact rmq M0
theorem RM.toN {ν ν' : fMem} {V : HV} {S : SV} {XI : Option SV} {XT : List SK} {N N' : Nat × (Nat → Nat → Int32) × Int32} {XR : (Nat × (Nat → Int32)) × (Int32 × Int32)} (hV : HW V) (hl : XT.length ≤ 20) (M : RM ν V S (XI, XT, N, XR)) (kk : ∀ c j, ¬ (215 ≤ c ∧ c ≤ 219) → ¬ (c = 181 ∧ 57 ≤ j ∧ j ≤ 58) → ν'.1 c j = ν.1 c j) (mN : MN ν' N') : RM ν' V S (XI, XT, N', XR) := by
  have v8 : V.1 2 ≤ 8 := hV.2.2.1
  refine M.to hV (fun c j a b => kk c j (by omega) (by omega)) (fun j hj => kk _ _ (by omega) (by omega)) (M.2.1.of v8 (fun c a b j hj => kk _ _ (by omega) (by omega)) (fun c a b j hj => kk _ _ (by omega) (by omega)) (kk _ _ (by omega) (by omega)) (kk _ _ (by omega) (by omega))) (MI.of v8 (kk _ _ (by omega) (by omega)) (fun c j q => kk c j (by unfold Px at q; omega) (by unfold Px at q; omega)) M.2.2.2.1) ⟨by rw [kk _ _ (by omega) (by omega)]; exact M.2.2.2.2.1.1, MUr.of v8 (fun c y j a b q => kk c j (by unfold Px at q; omega) (by unfold Px at q; omega)) hl M.2.2.2.2.1.2⟩ mN ⟨by rw [kk _ _ (by omega) (by omega)]; exact M.2.2.2.2.2.2.1.1, fun j hj => ?_⟩ rfl
  rw [kk _ _ (by omega) (by omega)]
  exact M.2.2.2.2.2.2.1.2 j hj
theorem RC.toN {μ μ' : fMem} {V : HV} {S : SV} {h : Nat} {XI : Option SV} {XT : List SK} {N N' : Nat × (Nat → Nat → Int32) × Int32} {XR : (Nat × (Nat → Int32)) × (Int32 × Int32)} (C : RC μ V S (XI, XT, N, XR) h) (K : Kp [123, 124, 125, 126, 127, 128] [] μ μ') (cN : CN μ' N') : RC μ' V S (XI, XT, N', XR) h := by
  have kk : ∀ k, k < 123 ∨ 129 ≤ k → μ'.1 k = μ.1 k := fun k hk => K.2.1 k (by simp only [List.mem_cons, List.not_mem_nil, or_false]; omega)
  exact C.to (fun k hk => kk k (by omega)) (K.2.2 121 (List.not_mem_nil)) (fun k j _ => K.r k j) (C.2.2.2.2.1.of fun k a b => kk k (by omega)) (CI.of (fun k a => kk k (by omega)) C.2.2.2.2.2.2.1) ⟨by rw [kk 130 (by omega)]; exact C.2.2.2.2.2.2.2.1.1, CTr.of (fun k a b => kk k (by omega)) C.2.2.2.2.2.2.2.1.2⟩ cN ⟨by rw [kk 0 (by omega)]; exact C.2.2.2.2.2.2.2.2.2.1.1, fun j hj => by rw [kk 1 (by omega)]; exact C.2.2.2.2.2.2.2.2.2.1.2 j hj⟩ rfl
theorem sim_known (a : Int32) : Sim Rel (f_X10_known 0 a) (f_X11_known 181 a) := by
  refine simX fun μ ν V S X h hV hS hX C M => ?_
  obtain ⟨XI, XT, ⟨n, f, k⟩, XR⟩ := X
  have h24 : n ≤ 24 := hX.2.2.1.1
  have cN := C.2.2.2.2.2.2.2.2.1
  have M0 := rm_th hV hX M
  dsimp only at cN
  unfold f_X10_known f_X11_known
  simp only [Nat.reduceAdd, gd_t (show bl (0 : Int32) from Or.inl rfl), gd_t (show bl (1 : Int32) from Or.inr rfl)]
  by_cases c1 : a < -1
  · rw [if_pos c1]
    refine ⟨0, S, (XI, XT, (n, f, k), XR), hS, hX, rcq C, ?_⟩
    show Ok _ _
    rw [Ok_vl, if_pos c1]
    exact rmq M0
  · rw [if_neg c1, cN.1]
    by_cases c2 : a ≤ nI n
    · have ha : a = -1 ∨ ∃ j, j ≤ n ∧ a = nI j := by
        by_cases c3 : a < 0
        · left
          have h1 := Int32.lt_iff_toInt_lt.mp c3
          have h2 := Int32.le_iff_toInt_le.mp (Int32.not_lt.mp c1)
          rw [show (0 : Int32).toInt = 0 by decide] at h1
          rw [show (-1 : Int32).toInt = -1 by decide] at h2
          exact Int32.toInt_inj.mp (by rw [show (-1 : Int32).toInt = -1 by decide]; omega)
        · right
          obtain ⟨j, hj, e⟩ := nI_of2 (M := nI n) (n := n) (nI_toInt (by omega)) c3 c2
          exact ⟨j, hj, e⟩
      refine ⟨1, S, (XI, XT, (n, f, a), XR), hS, ⟨hX.1, hX.2.1, ⟨h24, ha, hX.2.2.1.2.2⟩, hX.2.2.2⟩, ?_, ?_⟩
      · show Ok _ _
        rw [if_pos c2, Ok_vl]
        refine Ok_some.mpr ⟨rfl, C.toN (Kp.rfl'.sI (by simp)) ⟨?_, ?_, fun k hk => ?_⟩⟩
        · rw [sI_i, if_neg (by omega)]; exact cN.1
        · rw [sI_i, if_pos ⟨rfl, rfl⟩]
        · simp only [sI_i, Nat.reduceEqDiff, false_and, if_false]
          exact cN.2.2 k hk
      · show Ok _ _
        have mN := M0.2.2.2.2.2.1
        dsimp only at mN
        rw [Ok_vl, if_neg c1, mN.1, if_pos c2, Ok_vl]
        refine Ok_some.mpr ⟨rfl, M0.toN hV hX.2.1.1 (fun c j h1 h2 => by rw [sI_i, if_neg (by omega)]) ⟨?_, ?_, fun k hk => ?_⟩⟩
        · rw [sI_i, if_neg (by omega)]; exact mN.1
        · rw [sI_i, if_pos ⟨rfl, rfl⟩]
        · have z : ∀ c, 215 ≤ c → c ≤ 219 → (sI (sI ν 181 0 0) 181 58 a).1 c k = (sI ν 181 0 0).1 c k := fun c h1 h2 => by rw [sI_i, if_neg (by omega)]
          rw [z 219 (by omega) (by omega), z 215 (by omega) (by omega), z 216 (by omega) (by omega), z 217 (by omega) (by omega), z 218 (by omega) (by omega)]
          exact mN.2.2 k hk
    · rw [if_neg c2]
      refine ⟨0, S, (XI, XT, (n, f, k), XR), hS, hX, rcq C, ?_⟩
      have mN := M0.2.2.2.2.2.1
      dsimp only at mN
      show Ok _ _
      rw [Ok_vl, if_neg c1, mN.1, if_neg c2]
      exact rmq M0
/-- notes with one more -/
def nadd (f : Nat → Nat → Int32) (n : Nat) (v : Nat → Int32) : Nat → Nat → Int32 := fun i k => if k = n then v i else f i k
theorem nadd_at {f : Nat → Nat → Int32} {n : Nat} {v : Nat → Int32} {i : Nat} : nadd f n v i n = v i := by simp [nadd]
theorem nadd_ne {f : Nat → Nat → Int32} {n : Nat} {v : Nat → Int32} {i k : Nat} (h : ¬ k = n) : nadd f n v i k = f i k := by simp [nadd, h]
theorem NW.add {V : HV} {n : Nat} {f : Nat → Nat → Int32} {k : Int32} {v : Nat → Int32} (h : NW V (n, f, k)) (hn : n < 24) (hv : (v 4 = -1 ∧ (∃ m, 1 ≤ m ∧ m ≤ 30 ∧ v 0 = nI m) ∧ (∃ t, t < V.1 2 ∧ v 1 = nI t) ∧ (∃ r, r < V.1 0 ∧ v 2 = nI r) ∧ bl (v 3)) ∨ ∃ j, j < n ∧ v 4 = nI j) : NW V (n + 1, nadd f n v, k) := by
  refine ⟨by show n + 1 ≤ 24; omega, h.2.1.elim Or.inl (fun ⟨j, hj, e⟩ => Or.inr ⟨j, Nat.le_succ_of_le hj, e⟩), fun i hi => ?_⟩
  dsimp only at hi ⊢
  by_cases e : i = n
  · subst e
    simp only [nadd_at]
    exact hv
  · simp only [nadd_ne e]
    exact h.2.2 i (by show i < n; omega)
theorem CN.add {μ μ' : fMem} {n : Nat} {f : Nat → Nat → Int32} {k : Int32} {v : Nat → Int32} (h : CN μ (n, f, k)) (e0 : μ'.1 123 0 = nI (n + 1)) (e1 : μ'.1 123 1 = μ.1 123 1) (eo : ∀ c j, 124 ≤ c → c ≤ 128 → j < n → μ'.1 c j = μ.1 c j) (en : μ'.1 128 n = v 4 ∧ (v 4 = -1 → μ'.1 124 n = v 0 ∧ μ'.1 125 n = v 1 ∧ μ'.1 126 n = v 2 ∧ μ'.1 127 n = v 3)) : CN μ' (n + 1, nadd f n v, k) := by
  refine ⟨e0, e1.trans h.2.1, fun i hi => ?_⟩
  dsimp only at hi ⊢
  by_cases e : i = n
  · subst e
    simp only [nadd_at]
    exact en
  · simp only [nadd_ne e]
    have hi' : i < n := by omega
    rw [eo 128 i (by omega) (by omega) hi', eo 124 i (by omega) (by omega) hi', eo 125 i (by omega) (by omega) hi', eo 126 i (by omega) (by omega) hi', eo 127 i (by omega) (by omega) hi']
    exact h.2.2 i hi'
theorem MN.add {ν ν' : fMem} {n : Nat} {f : Nat → Nat → Int32} {k : Int32} {v : Nat → Int32} (h : MN ν (n, f, k)) (e0 : ν'.1 181 57 = nI (n + 1)) (e1 : ν'.1 181 58 = ν.1 181 58) (eo : ∀ c j, 215 ≤ c → c ≤ 219 → j < n → ν'.1 c j = ν.1 c j) (en : ν'.1 219 n = v 4 ∧ (v 4 = -1 → ν'.1 215 n = v 0 ∧ ν'.1 216 n = v 1 ∧ ν'.1 217 n = v 2 ∧ ν'.1 218 n = v 3)) : MN ν' (n + 1, nadd f n v, k) := by
  refine ⟨e0, e1.trans h.2.1, fun i hi => ?_⟩
  dsimp only at hi ⊢
  by_cases e : i = n
  · subst e
    simp only [nadd_at]
    exact en
  · simp only [nadd_ne e]
    have hi' : i < n := by omega
    rw [eo 219 i (by omega) (by omega) hi', eo 215 i (by omega) (by omega) hi', eo 216 i (by omega) (by omega) hi', eo 217 i (by omega) (by omega) hi', eo 218 i (by omega) (by omega) hi']
    exact h.2.2 i hi'
theorem add4_spec {μ : fMem} {n : Nat} (hn : n < 24) (h0 : μ.1 123 0 = nI n) (v1 v2 v3 v4 : Int32) (hb : bl v4) : Ok (f_X4_add 123 v1 v2 v3 v4 μ) (fun r μ' => r = nI n ∧ Kp [123, 124, 125, 126, 127, 128] [] μ μ' ∧ μ'.1 123 0 = nI (n + 1) ∧ μ'.1 123 1 = μ.1 123 1 ∧ (∀ c j, 124 ≤ c → c ≤ 128 → j < n → μ'.1 c j = μ.1 c j) ∧ μ'.1 128 n = -1 ∧ μ'.1 124 n = v1 ∧ μ'.1 125 n = v2 ∧ μ'.1 126 n = v3 ∧ μ'.1 127 n = v4) := by
  unfold f_X4_add
  have ix : ixo (nI n) 24 := ixN hn (by omega)
  have cl : (nI n).toNatClampNeg = n := nI_clamp (by omega)
  simp only [Nat.reduceAdd, vl, gd_t hb, h0, sI_i, Nat.reduceEqDiff, false_and, if_false, gd_t ix, cl, and_self, if_true]
  rw [if_pos (show nI n < 24 from nI_lt (b := 24) hn (by omega)), Ok_some, nI_1, show nI (n + 1) - 1 = nI n from nI_pred n]
  refine ⟨rfl, (((((Kp.rfl'.sI (by simp)).sI (by simp)).sI (by simp)).sI (by simp)).sI (by simp)).sI (by simp), ?_, ?_, fun c j h1 h2 h3 => ?_, ?_, ?_, ?_, ?_, ?_⟩
  · simp [sI_i]
  · simp [sI_i]
  · have hj : ¬ j = n := by omega
    simp only [sI_i, hj, and_false, if_false]
    rw [if_neg (by omega)]
  all_goals simp [sI_i]
theorem sim_note (a b c d : Int32) (hd : bl d) : Sim Rel (f_X10_note 0 a b c d) (f_X11_note 181 a b c d) := by
  refine simX fun μ ν V S X h hV hS hX C M => ?_
  obtain ⟨XI, XT, ⟨n, f, k⟩, XR⟩ := X
  have h24 : n ≤ 24 := hX.2.2.1.1
  have cN := C.2.2.2.2.2.2.2.2.1
  have M0 := rm_th hV hX M
  have h6 : V.1 0 ≤ 6 := hV.1
  have h8 : V.1 2 ≤ 8 := hV.2.2.1
  dsimp only at cN
  by_cases a1 : a < 1
  · refine ⟨-1, S, (XI, XT, (n, f, k), XR), hS, hX, ?_, ?_⟩
    · unfold f_X10_note; rw [if_pos a1]; exact rcq C
    · unfold f_X11_note
      show Ok _ _
      rw [Ok_vl, if_pos a1]; exact rmq M0
  by_cases a30 : a ≤ 30
  rotate_left
  · refine ⟨-1, S, (XI, XT, (n, f, k), XR), hS, hX, ?_, ?_⟩
    · unfold f_X10_note; rw [if_neg a1, if_neg a30]; exact rcq C
    · unfold f_X11_note
      show Ok _ _
      rw [Ok_vl, if_neg a1, if_pos (Int32.not_le.mp a30)]; exact rmq M0
  have an : ¬ 30 < a := Int32.not_lt.mpr a30
  by_cases cb : hs (V.1 2) b
  rotate_left
  · refine ⟨-1, S, (XI, XT, (n, f, k), XR), hS, hX, ?_, ?_⟩
    · unfold f_X10_note
      rw [if_neg a1, if_pos a30]
      refine rc_h C ?_
      rw [has2 C.2.2.2.1, bd_some, if_neg cb, if_pos rfl]; exact rcq C
    · unfold f_X11_note
      show Ok _ _
      rw [Ok_vl, if_neg a1, if_neg an, isThing_eq M0.1, bd_some, if_neg cb, if_pos rfl]; exact rmq M0
  by_cases ccc : hs (V.1 0) c
  rotate_left
  · refine ⟨-1, S, (XI, XT, (n, f, k), XR), hS, hX, ?_, ?_⟩
    · unfold f_X10_note
      rw [if_neg a1, if_pos a30]
      refine rc_h C ?_
      rw [has2 C.2.2.2.1, bd_some, if_pos cb, if_neg (by decide)]
      refine rc_h C ?_
      rw [has0 C.2.2.2.1, bd_some, if_neg ccc, if_pos rfl]; exact rcq C
    · unfold f_X11_note
      show Ok _ _
      rw [Ok_vl, if_neg a1, if_neg an, isThing_eq M0.1, bd_some, if_pos cb, if_neg (by decide), isRoom_eq M0.1, bd_some, if_neg ccc, if_pos rfl]; exact rmq M0
  by_cases hn : n < 24
  rotate_left
  · refine ⟨-1, S, (XI, XT, (n, f, k), XR), hS, hX, ?_, ?_⟩
    · unfold f_X10_note
      rw [if_neg a1, if_pos a30]
      refine rc_h C ?_
      rw [has2 C.2.2.2.1, bd_some, if_pos cb, if_neg (by decide)]
      refine rc_h C ?_
      rw [has0 C.2.2.2.1, bd_some, if_pos ccc, if_neg (by decide)]
      unfold f_X4_add
      simp only [Nat.reduceAdd]
      rw [cN.1, if_neg (show ¬ nI n < 24 from nI_nlt (b := 24) (by omega) (by omega)), bd_some]; exact rcq C
    · unfold f_X11_note
      show Ok _ _
      rw [Ok_vl, if_neg a1, if_neg an, isThing_eq M0.1, bd_some, if_pos cb, if_neg (by decide), isRoom_eq M0.1, bd_some, if_pos ccc, if_neg (by decide), show (sI ν 181 0 0).1 181 57 = nI n from M0.2.2.2.2.2.1.1, if_pos (show nI n = 24 by rw [show n = 24 by omega]; rfl)]; exact rmq M0
  obtain ⟨t, ht, et⟩ := hs_ex cb (by omega)
  obtain ⟨r, hr, er⟩ := hs_ex ccc (by omega)
  obtain ⟨m, hm, em⟩ := nI_of2 (x := a) (M := 30) (n := 30) (by decide) (fun q => a1 (Int32.lt_trans q (by decide))) a30
  have hm1 : 1 ≤ m := by
    rcases Nat.eq_zero_or_pos m with z | z
    · subst z; rw [em] at a1; exact absurd (by decide) a1
    · exact z
  refine ⟨nI n, S, (XI, XT, (n + 1, nadd f n (fun i => if i = 0 then a else if i = 1 then b else if i = 2 then c else if i = 3 then d else -1), k), XR), hS, ⟨hX.1, hX.2.1, hX.2.2.1.add hn (Or.inl ⟨rfl, ⟨m, hm1, hm, em⟩, ⟨t, ht, et⟩, ⟨r, hr, er⟩, hd⟩), hX.2.2.2⟩, ?_, ?_⟩
  · unfold f_X10_note
    rw [if_neg a1, if_pos a30]
    refine rc_h C ?_
    rw [has2 C.2.2.2.1, bd_some, if_pos cb, if_neg (by decide)]
    refine rc_h C ?_
    rw [has0 C.2.2.2.1, bd_some, if_pos ccc, if_neg (by decide)]
    simp only [Nat.reduceAdd]
    refine Ok_bd.mpr ((add4_spec hn cN.1 a b c d hd).mono ?_)
    rintro x μ1 ⟨rfl, K, e0, e1, eo, e8, e4, e5, e6, e7⟩
    exact Ok_some.mpr ⟨rfl, C.toN K (cN.add e0 e1 eo ⟨e8, fun _ => ⟨e4, e5, e6, e7⟩⟩)⟩
  · unfold f_X11_note
    show Ok _ _
    have mN := M0.2.2.2.2.2.1
    dsimp only at mN
    rw [Ok_vl, if_neg a1, if_neg an, isThing_eq M0.1, bd_some, if_pos cb, if_neg (by decide), isRoom_eq M0.1, bd_some, if_pos ccc, if_neg (by decide)]
    generalize sI ν 181 0 0 = ν0 at M0 mN ⊢
    have ix : ixo (nI n) 24 := ixN hn (by omega)
    have cl : (nI n).toNatClampNeg = n := nI_clamp (by omega)
    simp only [Nat.reduceAdd, vl, gd_t hd, mN.1, sI_i, Nat.reduceEqDiff, false_and, if_false, gd_t ix, cl, and_self, if_true]
    rw [if_neg (fun z => by have := (nI_eq (a := n) (b := 24) (by omega) (by omega)).mp z; omega), Ok_some, nI_1, show nI (n + 1) - 1 = nI n from nI_pred n]
    refine ⟨rfl, M0.toN hV hX.2.1.1 (fun c j h1 h2 => ?_) (mN.add ?_ ?_ (fun c j h1 h2 h3 => ?_) ⟨?_, fun _ => ⟨?_, ?_, ?_, ?_⟩⟩)⟩
    · simp only [sI_i]
      rw [if_neg (by omega), if_neg (by omega), if_neg (by omega), if_neg (by omega), if_neg (by omega), if_neg (by omega)]
    · simp [sI_i]
    · simp [sI_i]
    · have hj : ¬ j = n := by omega
      simp only [sI_i, hj, and_false, if_false]
      rw [if_neg (by omega)]
    all_goals simp [sI_i]
theorem sim_out (a : Int32) : Sim Rel (f_X10_out 0 a) (f_X11_out 181 a) := by
  refine simX fun μ ν V S X h hV hS hX C M => ?_
  obtain ⟨XI, XT, ⟨n, f, k⟩, XR⟩ := X
  have h24 : n ≤ 24 := hX.2.2.1.1
  have cN := C.2.2.2.2.2.2.2.2.1
  have M0 := rm_th hV hX M
  have mN := M0.2.2.2.2.2.1
  dsimp only at cN mN
  unfold f_X10_out f_X11_out
  simp only [Nat.reduceAdd]
  by_cases a0 : a < 0
  · refine ⟨-1, S, (XI, XT, (n, f, k), XR), hS, hX, ?_, ?_⟩
    · rw [if_pos a0]; exact rcq C
    · show Ok _ _
      rw [Ok_vl, if_pos a0]; exact rmq M0
  by_cases a1 : a < nI n
  rotate_left
  · refine ⟨-1, S, (XI, XT, (n, f, k), XR), hS, hX, ?_, ?_⟩
    · rw [if_neg a0, cN.1, if_neg a1]; exact rcq C
    · show Ok _ _
      rw [Ok_vl, if_neg a0, mN.1, if_pos (Int32.not_lt.mp a1)]; exact rmq M0
  by_cases hn : n < 24
  rotate_left
  · refine ⟨-1, S, (XI, XT, (n, f, k), XR), hS, hX, ?_, ?_⟩
    · rw [if_neg a0, cN.1, if_pos a1]
      unfold f_X4_addStrike f_X4_add
      rw [cN.1, if_neg (show ¬ nI n < 24 from nI_nlt (b := 24) (by omega) (by omega)), bd_some, if_pos rfl, bd_some]; exact rcq C
    · show Ok _ _
      rw [Ok_vl, if_neg a0, mN.1, if_neg (Int32.not_le.mpr a1), if_pos (show nI n = 24 by rw [show n = 24 by omega]; rfl)]; exact rmq M0
  obtain ⟨j, hj, ej⟩ := nI_of a0
  have hjn : j < n := by rw [ej] at a1; exact (nI_ltI hj (by omega)).mp a1
  refine ⟨nI n, S, (XI, XT, (n + 1, nadd f n (fun _ => a), k), XR), hS, ⟨hX.1, hX.2.1, hX.2.2.1.add hn (Or.inr ⟨j, hjn, ej⟩), hX.2.2.2⟩, ?_, ?_⟩
  · rw [if_neg a0, cN.1, if_pos a1]
    unfold f_X4_addStrike
    show Ok _ _
    rw [Ok_bd, Ok_bd]
    refine (add4_spec hn cN.1 0 0 0 0 (Or.inl rfl)).mono ?_
    rintro x μ1 ⟨rfl, K, e0, e1, eo, e8, e4, e5, e6, e7⟩
    rw [if_neg (nI_nm1 (by omega)), gd_t (ixN hn (by omega)), nI_clamp (by omega), Ok_vl, Ok_some, Ok_some]
    refine ⟨rfl, C.toN (K.sI (by simp)) (cN.add ?_ ?_ (fun c j h1 h2 h3 => ?_) ⟨?_, fun z => ?_⟩)⟩
    · rw [sI_i, if_neg (by omega)]; exact e0
    · rw [sI_i, if_neg (by omega)]; exact e1
    · rw [sI_i, if_neg (by omega)]; exact eo c j h1 h2 h3
    · rw [sI_i, if_pos ⟨rfl, rfl⟩]
    · rw [ej] at z
      exact absurd z (nI_nm1 hj)
  · show Ok _ _
    rw [Ok_vl, if_neg a0]
    generalize sI ν 181 0 0 = ν0 at M0 mN ⊢
    rw [mN.1, if_neg (Int32.not_le.mpr a1), if_neg (fun z => by have := (nI_eq (a := n) (b := 24) (by omega) (by omega)).mp z; omega), gd_t (ixN hn (by omega)), nI_clamp (by omega), Ok_vl, Ok_vl]
    have e1 : (sI ν0 219 n a).1 181 57 = nI n := by rw [sI_i, if_neg (by omega)]; exact mN.1
    rw [e1, nI_1]
    have e2 : (sI (sI ν0 219 n a) 181 57 (nI (n + 1))).1 181 57 = nI (n + 1) := by rw [sI_i, if_pos ⟨rfl, rfl⟩]
    rw [e2, show nI (n + 1) - 1 = nI n from nI_pred n, Ok_some]
    refine ⟨rfl, M0.toN hV hX.2.1.1 (fun c j h1 h2 => ?_) (mN.add e2 ?_ (fun c j h1 h2 h3 => ?_) ⟨?_, fun z => ?_⟩)⟩
    · rw [sI_i, if_neg (by omega), sI_i, if_neg (by omega)]
    · rw [sI_i, if_neg (by omega), sI_i, if_neg (by omega)]
    · rw [sI_i, if_neg (by omega), sI_i, if_neg (by omega)]
    · rw [sI_i, if_neg (by omega), sI_i, if_pos ⟨rfl, rfl⟩]
    · rw [ej] at z
      exact absurd z (nI_nm1 hj)
theorem sim_keep : Sim Rel (f_X10_keep 0) (f_X11_keep 181) := by
  refine simX fun μ ν V S X h hV hS hX C M => ?_
  obtain ⟨XI, XT, XN, XF, XR⟩ := X
  have h8 : V.1 2 ≤ 8 := hV.2.2.1
  have M0 := rm_th hV hX M
  refine ⟨S 6 0, S, (some S, XT, XN, XF, XR), hS, ⟨fun I hI => by cases hI; exact hS, hX.2⟩, ?_, ?_⟩
  · unfold f_X10_keep
    simp only [Nat.reduceAdd]
    refine Ok_bd.mpr ((copy_spec h8 C.2.2.2.2.1 (s' := 72) (by omega)).mono ?_)
    rintro - μ1 ⟨c1, K⟩
    have kk : ∀ k, k < 72 ∨ 78 ≤ k → ¬ k = 0 → (sI μ1 0 6 1).1 k = μ.1 k := fun k hk h0 => by
      funext j
      rw [sI_i, if_neg (by omega)]
      exact K.i (by simp only [sS, List.mem_cons, List.not_mem_nil, or_false]; omega) j
    have k0 : ∀ j, ¬ j = 6 → (sI μ1 0 6 1).1 0 j = μ.1 0 j := fun j hj => by
      rw [sI_i, if_neg (by omega)]
      exact K.i (by simp [sS]) j
    show Ok _ _
    rw [Ok_vl, kk 66 (by omega) (by omega), C.2.2.2.2.1.2.2.2.2.2.2.1]
    refine Ok_some.mpr ⟨rfl, ?_⟩
    refine C.to (fun k hk => kk k (by omega) (by omega)) (K.2.2 121 (List.not_mem_nil)) (fun k j _ => K.r k j) (C.2.2.2.2.1.of fun k a b => kk k (by omega) (by omega)) ⟨by rw [sI_i, if_pos ⟨rfl, rfl⟩], c1.of fun k a b => ?_⟩ ⟨by rw [kk 130 (by omega) (by omega)]; exact C.2.2.2.2.2.2.2.1.1, CTr.of (fun k a b => kk k (by omega) (by omega)) C.2.2.2.2.2.2.2.1.2⟩ (CN.of (fun k a b => kk k (by omega) (by omega)) C.2.2.2.2.2.2.2.2.1) ⟨by rw [k0 1 (by omega)]; exact C.2.2.2.2.2.2.2.2.2.1.1, fun j hj => by rw [kk 1 (by omega) (by omega)]; exact C.2.2.2.2.2.2.2.2.2.1.2 j hj⟩ rfl
    funext j
    rw [sI_i, if_neg (by omega)]
  · unfold f_X11_keep
    show Ok _ _
    rw [Ok_vl]
    generalize sI ν 181 0 0 = ν0 at M0 ⊢
    rw [Ok_bd]
    refine (copies_spec (x := 0) (y := 2) (by omega) (by omega) (by omega)).mono ?_
    rintro - ν1 ⟨K, cp⟩
    have kk : ∀ c j, ¬ Px 2 c j → ¬ (c = 181 ∧ j = 45) → (sI ν1 181 45 1).1 c j = ν0.1 c j := fun c j h1 h2 => by rw [sI_i, if_neg h2]; exact K.2.1 c j h1
    simp only [Nat.reduceAdd]
    rw [Ok_vl, kk 203 0 (by unfold Px; omega) (by omega), M0.2.1.2.2.2.2.2.2]
    refine Ok_some.mpr ⟨rfl, ?_⟩
    refine M0.to hV (fun c j a b => kk c j (by unfold Px; omega) (by omega)) (fun j hj => kk _ _ (by unfold Px; omega) (by omega)) (M0.2.1.of h8 (fun c a b j hj => kk _ _ (by unfold Px; omega) (by omega)) (fun c a b j hj => kk _ _ (by unfold Px; omega) (by omega)) (kk _ _ (by unfold Px; omega) (by omega)) (kk _ _ (by unfold Px; omega) (by omega))) ⟨by rw [sI_i, if_pos ⟨rfl, rfl⟩], (M0.2.1.cpd h8 cp).of h8 (fun c a b j hj => by rw [sI_i, if_neg (by omega)]) (fun c a b j hj => by rw [sI_i, if_neg (by omega)]) (by rw [sI_i, if_neg (by omega)]) (by rw [sI_i, if_neg (by omega)])⟩ ⟨by rw [kk _ _ (by unfold Px; omega) (by omega)]; exact M0.2.2.2.2.1.1, MUr.of h8 (fun c y j a b q => kk c j (by unfold Px at q ⊢; omega) (by unfold Px at q; omega)) hX.2.1.1 M0.2.2.2.2.1.2⟩ (MN.of (fun j a b => kk _ _ (by unfold Px; omega) (by omega)) (fun c j a b => kk _ _ (by unfold Px; omega) (by omega)) M0.2.2.2.2.2.1) ⟨by rw [kk _ _ (by unfold Px; omega) (by omega)]; exact M0.2.2.2.2.2.2.1.1, fun j hj => by rw [kk _ _ (by unfold Px; omega) (by omega)]; exact M0.2.2.2.2.2.2.1.2 j hj⟩ rfl
end Sim6
