/-! numbers -/
theorem irm_nI {m n : Nat} (hm : m < 2 ^ 31) (hn : n < 2 ^ 31) (h0 : 0 < n) : irm (nI m) (nI n) = nI (m % n) := by
  have h1 : (nI m / nI n).toInt = ((m / n : Nat) : Int) := by
    have hd : m / n ≤ m := Nat.div_le_self _ _
    have hq : ∀ q : Nat, q ≤ m → Int.bmod (q : Int) (2 ^ 32) = q := fun q hq => Int.bmod_eq_of_le (by omega) (by omega)
    rw [Int32.toInt_div, nI_toInt hm, nI_toInt hn, ← Int.ofNat_tdiv]
    exact hq _ hd
  have h2 : nI m / nI n = nI (m / n) := by
    have hd : m / n ≤ m := Nat.div_le_self _ _
    refine Int32.toInt_inj.mp ?_
    rw [h1, nI_toInt (by omega)]
  unfold irm
  have h3 : nI (m / n) * nI n = nI (m / n * n) := by
    unfold nI
    rw [Int32.ofNat_mul]
  have h4 := Nat.div_add_mod m n
  have h5 : m = m % n + m / n * n := by rw [Nat.mul_comm]; omega
  rw [h2, h3]
  conv => lhs; arg 1; rw [h5]
  exact nI_sub _ _
def nx (k : Nat) : Nat := (k * 1103515245 + 12345) % 2147483648
def gx (k : Nat) : Nat := k / 65536 % 100
theorem nx_lt (k : Nat) : nx k < 2 ^ 31 := Nat.mod_lt _ (by decide)
theorem gx_le (k : Nat) : gx k ≤ 99 := by unfold gx; omega
theorem and_mask (x : Nat) : x &&& 2147483647 = x % 2147483648 := Nat.and_two_pow_sub_one_eq_mod x 31
theorem draw64 (k : Nat) : (lN k * 1103515245 + 12345) &&& 2147483647 = lN (nx k) := by
  have e1 : lN k * 1103515245 + 12345 = lN (k * 1103515245 + 12345) := by
    rw [show (1103515245 : Int64) = lN 1103515245 from rfl, show (12345 : Int64) = lN 12345 from rfl, lN_mul, lN_add]
  rw [e1, show (2147483647 : Int64) = lN 2147483647 from rfl]
  unfold nx
  generalize k * 1103515245 + 12345 = y
  refine Int64.toBitVec_inj.mp ?_
  refine BitVec.eq_of_toNat_eq ?_
  show (BitVec.ofNat 64 y &&& BitVec.ofNat 64 2147483647).toNat = (BitVec.ofNat 64 (y % 2147483648)).toNat
  rw [BitVec.toNat_and, BitVec.toNat_ofNat, BitVec.toNat_ofNat, BitVec.toNat_ofNat]
  rw [show 2147483647 % 2 ^ 64 = 2147483647 by decide, and_mask]
  omega
theorem draw32 (k : Nat) : (nI k * 1103515245 + 12345) &&& 2147483647 = nI (nx k) := by
  have e1 : nI k * 1103515245 + 12345 = nI (k * 1103515245 + 12345) := by
    rw [show (1103515245 : Int32) = nI 1103515245 from rfl, show (12345 : Int32) = nI 12345 from rfl, ← nI_add]
    unfold nI
    rw [Int32.ofNat_mul]
  rw [e1, show (2147483647 : Int32) = nI 2147483647 from rfl]
  unfold nx
  generalize k * 1103515245 + 12345 = y
  refine Int32.toBitVec_inj.mp ?_
  refine BitVec.eq_of_toNat_eq ?_
  show (BitVec.ofNat 32 y &&& BitVec.ofNat 32 2147483647).toNat = (BitVec.ofNat 32 (y % 2147483648)).toNat
  rw [BitVec.toNat_and, BitVec.toNat_ofNat, BitVec.toNat_ofNat, BitVec.toNat_ofNat]
  rw [show 2147483647 % 2 ^ 32 = 2147483647 by decide, and_mask]
  omega
theorem lN_div {a b : Nat} (ha : a < 2 ^ 31) (hb : b < 2 ^ 31) : lN a / lN b = lN (a / b) := by
  have hd : a / b ≤ a := Nat.div_le_self _ _
  refine Int64.toInt_inj.mp ?_
  have hq : ∀ q : Nat, q ≤ a → Int.bmod (q : Int) (2 ^ 64) = q := fun q hq => Int.bmod_eq_of_le (by omega) (by omega)
  rw [Int64.toInt_div, lN_toInt ha, lN_toInt hb, lN_toInt (by omega), ← Int.ofNat_tdiv]
  exact hq _ hd
theorem lrm_lN {m n : Nat} (hm : m < 2 ^ 31) (hn : n < 2 ^ 31) : lrm (lN m) (lN n) = lN (m % n) := by
  unfold lrm
  have h4 := Nat.div_add_mod m n
  have h5 : m - m / n * n = m % n := by rw [Nat.mul_comm]; omega
  have h6 : m / n * n ≤ m := by rw [Nat.mul_comm]; omega
  rw [lN_div hm hn, lN_mul, lN_sub h6, h5]
theorem gauge64 {x : Nat} (h : x < 2 ^ 31) : Int64.toInt32 (lrm (lN x / 65536) 100) = nI (gx x) := by
  rw [show (65536 : Int64) = lN 65536 from rfl, show (100 : Int64) = lN 100 from rfl, lN_div h (by decide), lrm_lN (by omega) (by decide), lN_i]
  rfl
theorem tb_of {x : Int32} {r : Nat} (hr : r < 8) : nbit x r ↔ x.toBitVec.getLsbD r = false := by
  have e : (shl 1 (nI r)).toBitVec = BitVec.twoPow 32 r := (by decide : ∀ r, r < 8 → (shl 1 (nI r)).toBitVec = BitVec.twoPow 32 r) r hr
  have e2 : (x &&& shl 1 (nI r)).toBitVec = if x.toBitVec.getLsbD r then BitVec.twoPow 32 r else 0#32 := by
    rw [Int32.toBitVec_and, e, BitVec.and_twoPow]
  constructor
  · intro h
    have h : x &&& shl 1 (nI r) = 0 := h
    rw [h] at e2
    cases q : x.toBitVec.getLsbD r with
    | false => rfl
    | true =>
      rw [q] at e2
      have e3 : (0 : Int32).toBitVec = BitVec.twoPow 32 r := e2
      exact absurd e3 ((by decide : ∀ r, r < 8 → ¬ (0 : Int32).toBitVec = BitVec.twoPow 32 r) r hr)
  · intro h
    rw [h] at e2
    exact Int32.toBitVec_inj.mp e2
theorem shr_bv {x : Int32} {r : Nat} (hr : r < 32) : (shr x (nI r)).toBitVec = x.toBitVec.sshiftRight r := by
  show x.toBitVec.sshiftRight' (((nI r) &&& 31).toBitVec.smod 32) = _
  rw [(by decide +kernel : ∀ r, r < 32 → (((nI r) &&& 31).toBitVec.smod 32) = BitVec.ofNat 32 r) r hr]
  show x.toBitVec.sshiftRight (BitVec.ofNat 32 r).toNat = _
  rw [BitVec.toNat_ofNat, Nat.mod_eq_of_lt (by omega)]
theorem shr_bit {x : Int32} {r : Nat} (hr : r < 8) : (shr x (nI r) &&& 1) = 0 ↔ nbit x r := by
  rw [tb_of hr]
  have e : (shr x (nI r) &&& 1 : Int32) = 0 ↔ nbit (shr x (nI r)) 0 := Iff.rfl
  rw [e, tb_of (by decide), shr_bv (by omega), BitVec.getLsbD_sshiftRight]
  rw [show r + 0 = r from rfl]
  simp
  omega
theorem gauge32 {x : Nat} (h : x < 2 ^ 31) : irm (shr (nI x) 16) 100 = nI (gx x) := by
  have e : shr (nI x) 16 = nI (x / 65536) := by
    refine Int32.toBitVec_inj.mp ?_
    rw [show (16 : Int32) = nI 16 from rfl, shr_bv (by decide)]
    refine BitVec.eq_of_toInt_eq ?_
    rw [BitVec.toInt_sshiftRight]
    show (nI x).toInt >>> 16 = (nI (x / 65536)).toInt
    rw [nI_toInt h, nI_toInt (by omega)]
    show ((x >>> 16 : Nat) : Int) = _
    rw [Nat.shiftRight_eq_div_pow]
  rw [e, show (100 : Int32) = nI 100 from rfl, irm_nI (by omega) (by decide) (by decide)]
  rfl
/-- those of the first n of which p holds, as bits -/
def orN (p : Nat → Bool) : Nat → Int32
  | 0 => 0
  | n + 1 => if p n = true then orN p n ||| shl 1 (nI n) else orN p n
theorem orN_bit {p : Nat → Bool} {d : Nat} (hd : d < 8) : ∀ n, n ≤ 8 → (nbit (orN p n) d ↔ ¬ (d < n ∧ p d = true))
  | 0, _ => by
    rw [tb_of hd]
    unfold orN
    simp
  | n + 1, h => by
    have ih := orN_bit (p := p) hd n (by omega)
    rw [tb_of hd] at ih ⊢
    unfold orN
    have eb : ((shl 1 (nI n)).toBitVec.getLsbD d) = decide (d = n) := (by decide : ∀ n, n < 8 → ∀ d, d < 8 → ((shl 1 (nI n)).toBitVec.getLsbD d) = decide (d = n)) n (by omega) d hd
    by_cases hp : p n = true
    · rw [if_pos hp, Int32.toBitVec_or, BitVec.getLsbD_or, eb, Bool.or_eq_false_iff, ih, decide_eq_false_iff_not]
      constructor
      · rintro ⟨a, b⟩ ⟨c, e⟩
        exact a ⟨by omega, e⟩
      · intro a
        refine ⟨fun q => a ⟨by omega, q.2⟩, ?_⟩
        rintro rfl
        exact a ⟨by omega, hp⟩
    · rw [if_neg hp, ih]
      constructor
      · rintro a ⟨c, e⟩
        by_cases q : d = n
        · subst q; exact hp e
        · exact a ⟨by omega, e⟩
      · exact fun a q => a ⟨by omega, q.2⟩
theorem orN_congr {p q : Nat → Bool} : ∀ {n : Nat}, (∀ i, i < n → p i = q i) → orN p n = orN q n
  | 0, _ => rfl
  | n + 1, h => by
    unfold orN
    rw [orN_congr (fun i hi => h i (by omega)), h n (by omega)]
