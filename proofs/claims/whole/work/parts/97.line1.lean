/-! names, rooms, numbers of a line -/
def Tb (x : Int32) (i : Nat) : Prop := shr x (nI i) &&& 1 = 1
theorem Tb_get {x : Int32} {i : Nat} (hi : i < 20) : Tb x i ↔ x.toBitVec.getLsbD i = true := by
  have e0 : ((nI i &&& 31).toBitVec.smod 32).toNat = i := (by decide : ∀ i, i < 20 → ((nI i &&& 31).toBitVec.smod 32).toNat = i) i hi
  have e : (shr x (nI i)).toBitVec = x.toBitVec.sshiftRight i := by
    show x.toBitVec.sshiftRight ((nI i &&& 31).toBitVec.smod 32).toNat = _
    rw [e0]
  have e2 : (shr x (nI i) &&& 1).toBitVec = if x.toBitVec.getLsbD i then BitVec.twoPow 32 0 else 0#32 := by
    have e3 : (x.toBitVec.sshiftRight i).getLsbD 0 = x.toBitVec.getLsbD i := by
      rw [BitVec.getLsbD_sshiftRight]
      simp [show i < 32 by omega]
    rw [Int32.toBitVec_and, e, show (1 : Int32).toBitVec = BitVec.twoPow 32 0 by decide, BitVec.and_twoPow, e3]
  unfold Tb
  constructor
  · intro h
    rw [h] at e2
    cases q : x.toBitVec.getLsbD i with
    | true => rfl
    | false => rw [q] at e2; exact absurd e2 (by decide)
  · intro h
    rw [h, if_pos rfl] at e2
    exact Int32.toBitVec_inj.mp (e2.trans (by decide))
theorem Tb_or {x : Int32} {i j : Nat} (hi : i < 20) (hj : j < 20) : Tb (x ||| shl 1 (nI j)) i ↔ (i = j ∨ Tb x i) := by
  have e : (shl 1 (nI j)).toBitVec = BitVec.twoPow 32 j := (by decide : ∀ j, j < 20 → (shl 1 (nI j)).toBitVec = BitVec.twoPow 32 j) j hj
  rw [Tb_get hi, Tb_get hi, Int32.toBitVec_or, BitVec.getLsbD_or, e, BitVec.getLsbD_twoPow]
  simp only [Bool.or_eq_true, Bool.and_eq_true, decide_eq_true_eq]
  constructor
  · rintro (h | h)
    · exact Or.inr h
    · exact Or.inl h.2.symm
  · rintro (h | h)
    · exact Or.inr ⟨by omega, h.symm⟩
    · exact Or.inl h
theorem find_mem {μ : fMem} {y w n : Nat} (hw : w < 4) (h8 : n ≤ 8) (hc : μ.1 (y + 1) w = nI n) (nm : Int32) : f_X2_find y (nI w) nm μ = some (oI (fnd (fun j => decide (μ.1 (y + 3 + w) j = nm)) n), μ) := by
  have key : Ok (f_X2_find y (nI w) nm μ) (fun z μ' => z = oI (fnd (fun j => decide (μ.1 (y + 3 + w) j = nm)) n) ∧ μ' = μ) := by
    unfold f_X2_find
    rw [if_neg (nI_pos (by omega)), if_pos (show nI w < 4 from nI_lt (b := 4) hw (by omega)), Ok_bd]
    refine Ok.mono (Q := fun u (q : Int32 × fMem) => q.2 = μ ∧ ((u = 0 ∧ fnd (fun j => decide (μ.1 (y + 3 + w) j = nm)) n = none) ∨ (¬ u = 0 ∧ ∃ b, fnd (fun j => decide (μ.1 (y + 3 + w) j = nm)) n = some b ∧ q.1 = nI b))) (Ok_lp n (fun i (q : Int32 × fMem) => q.1 = nI i ∧ q.2 = μ ∧ fnd (fun j => decide (μ.1 (y + 3 + w) j = nm)) i = none) (by omega) ⟨rfl, rfl, rfl⟩ ?_) ?_
    · rintro i ⟨z, μ1⟩ hi ⟨hz, hm, hn⟩
      dsimp only at hz hm hn ⊢
      subst hz hm
      have ht : f_X2_told y (nI w) μ1 = some (nI n, μ1) := by
        unfold f_X2_told
        rw [if_neg (nI_pos (by omega)), if_neg (show ¬ 6 ≤ nI w from nI_ge (b := 6) (by omega) (by omega)), gd_t (ixN (by omega) (by omega)), nI_clamp (by omega), hc]
      unfold f_X2_find_L17
      rw [ht, bd_some]
      rcases Nat.lt_or_ge i n with q | q
      · rw [if_neg (nI_ge q (by omega)), gd_t (ixN hw (by omega)), if_neg (show ¬ 8 ≤ nI i from nI_ge (b := 8) (by omega) (by omega)), gd_t (ixN hw (by omega)), gd_t (ixN (by omega) (by omega)), nI_clamp (by omega), nI_clamp (by omega), show y + 2 + 1 + w = y + 3 + w by omega]
        by_cases c : μ1.1 (y + 3 + w) i = nm
        · rw [if_pos c, Ok_some]
          exact Or.inr ⟨1, rfl, rfl, Or.inr ⟨by decide, i, fnd_le (a := 0) hn (decide_eq_true c) _ q, rfl⟩⟩
        · rw [if_neg c, Ok_vl, nI_1, Ok_some]
          refine Or.inl ⟨rfl, q, rfl, rfl, ?_⟩
          unfold fnd
          rw [hn]
          simp [c]
      · rw [if_pos (nI_le q (by omega)), Ok_some]
        have : i = n := by omega
        subst this
        exact Or.inr ⟨0, rfl, rfl, Or.inl ⟨rfl, hn⟩⟩
    · rintro u ⟨z, μ1⟩ ⟨hm, hq⟩
      dsimp only at hm hq ⊢
      subst hm
      rcases hq with ⟨rfl, hn⟩ | ⟨hu, b, hb, rfl⟩
      · rw [if_pos rfl, Ok_some, hn]; exact ⟨rfl, rfl⟩
      · rw [if_neg hu, Ok_some, hb]; exact ⟨rfl, rfl⟩
  obtain ⟨a, c, e, rfl, rfl⟩ := key
  exact e
def nameC (s : Nat) (q : Option Nat) : Nat := if s = 20 then (match q with | none => 0 | some _ => 3) else 1
def roomC (s : Nat) (q : Option Nat) : Nat := if s = 20 then (match q with | none => 4 | some _ => 0) else 1
def numC (s v M : Nat) : Nat := if s = 21 then (if M < v then 2 else 0) else 1
def fs (f : Option (Nat × Nat)) (c k : Nat) : Option (Nat × Nat) := match f with
  | some x => some x
  | none => if c = 0 then none else some (c, k)
theorem fs_n {c k : Nat} (h : ¬ c = 0) : fs none c k = some (c, k) := if_neg h
theorem fs_0 {c k : Nat} (h : c = 0) : fs none c k = none := if_pos h
/-- a fault of the class -/
def CFl (y : Nat) (μ μ' : fMem) (t : TQ) (c k : Nat) (r : Int32) : Prop := r = 0 ∧ Kx (fun a j => a = 30 ∧ j ≤ 1) BN μ μ' ∧ μ'.1 30 0 = nI c ∧ μ'.1 30 1 = nI (t k).2.1
section CLine
variable {μ : fMem} {y : Nat} {t : TQ} {K k : Nat}
theorem cfail (hT : CT μ t K k) (c : Nat) {r : Int32 → fMem → Prop} (h : ∀ μ', CFl y μ μ' t c k 0 → r 0 μ') : Ok (bd (f_X5_fail 30 (nI c) μ) fun r μ' => gd (bl r) (some (r, μ'))) r := by
  obtain ⟨μ', e, K1, e0, e1⟩ := fail_eq hT c
  rw [e, bd_some, gd_t (Or.inl rfl), Ok_some]
  exact h μ' ⟨rfl, K1, e0, e1⟩
theorem readName_spec (hy : y = 2 ∨ y = 37) (hr : μ.2.2 30 3 = y) (hK : K ≤ 700) (hE : (t K).1 = 22) (h36 : (t k).1 ≤ 36) (T : CT μ t K k) {w n : Nat} (hw : w < 4) (hn : n < 8) (hc : μ.1 (y + 1) w = nI n) {q : Option Nat} (hq : fnd (fun j => decide (μ.1 (y + 3 + w) j = nI (t k).2.2.1)) n = q) : Ok (f_X5_readName 30 (nI w) (nI n) μ) (fun r μ' => (nameC (t k).1 q = 0 ∧ r = 1 ∧ CT μ' t K (k + 1) ∧ Kx (fun a j => AX1 a j ∨ (a = y + 3 + w ∧ j = n)) BN μ μ' ∧ μ'.1 (y + 3 + w) n = nI (t k).2.2.1) ∨ (¬ nameC (t k).1 q = 0 ∧ CFl y μ μ' t (nameC (t k).1 q) k r)) := by
  unfold f_X5_readName f_X5_readName_j79
  simp only [Nat.reduceAdd]
  rw [T.2.2.2.1, T.2.2.2.2.2]
  by_cases c20 : (t k).1 = 20
  · have hlt : k < K := Nat.lt_of_le_of_ne T.2.1 (fun z => by rw [← z] at hE; omega)
    rw [if_pos (show nI (t k).1 = 20 by rw [c20]; rfl), Ok_vl, hr, gd_t (kd2 hy), find_mem hw (by omega) hc, hq, bd_some]
    cases q with
    | none =>
      have hC : nameC (t k).1 none = 0 := by unfold nameC; rw [if_pos c20]
      rw [show oI none = -1 from rfl, if_pos rfl, if_neg (nI_pos (by omega)), Ok_vl, hr, gd_t (kd2 hy), gd_t (ixN hw (by omega)), if_neg (show ¬ 8 ≤ nI n from nI_ge (b := 8) hn (by decide)), Ok_vl, gd_t (kd2 hy), gd_t (ixN hw (by omega)), gd_t (ixN hn (by omega)), Ok_vl, nI_clamp (by omega), nI_clamp (by omega), show y + 2 + 1 + w = y + 3 + w by omega, T.2.2.2.2.2, Ok_bd]
      have K1 : Kx (fun a j => AX1 a j ∨ (a = y + 3 + w ∧ j = n)) BN μ (sI μ (y + 3 + w) n (nI (t k).2.2.1)) := Kx.rfl'.sI (Or.inr ⟨rfl, rfl⟩)
      have T1 : CT (sI μ (y + 3 + w) n (nI (t k).2.2.1)) t K k := T.of (fun j hj => by rw [sI_i, if_neg (by omega)]) (fun c a b => by funext j; rw [sI_i, if_neg (by omega)])
      refine (next_spec hK T1 hlt).mono ?_
      rintro - μ2 ⟨K2, T2⟩
      rw [gd_t (Or.inr rfl), Ok_some]
      exact Or.inl ⟨hC, rfl, T2, K1.trans (K2.wide (fun _ _ h => Or.inl h) (fun _ _ h => h)), by rw [K2.2.1 _ _ (by omega), sI_i, if_pos ⟨rfl, rfl⟩]⟩
    | some a =>
      have hC : nameC (t k).1 (some a) = 3 := by unfold nameC; rw [if_pos c20]
      have ha := fnd_lt hq
      rw [show oI (some a) = nI a from rfl, if_neg (nI_nm1 (by omega)), hC]
      exact cfail T 3 fun μ' h => Or.inr ⟨by decide, h⟩
  · have hC : nameC (t k).1 q = 1 := by unfold nameC; rw [if_neg c20]
    rw [if_neg (show ¬ nI (t k).1 = 20 from fun z => c20 ((nI_eq (b := 20) (by omega) (by decide)).mp z)), hC]
    exact cfail T 1 fun μ' h => Or.inr ⟨by decide, h⟩
theorem readRoom_spec (hy : y = 2 ∨ y = 37) (hr : μ.2.2 30 3 = y) (hK : K ≤ 700) (hE : (t K).1 = 22) (h36 : (t k).1 ≤ 36) (T : CT μ t K k) {n : Nat} (hn : n ≤ 6) (hc : μ.1 (y + 1) 0 = nI n) {q : Option Nat} (hq : fnd (fun j => decide (μ.1 (y + 3) j = nI (t k).2.2.1)) n = q) : Ok (f_X5_readRoom 30 μ) (fun r μ' => (roomC (t k).1 q = 0 ∧ r = 1 ∧ CT μ' t K (k + 1) ∧ Kx (fun a j => AX1 a j ∨ (a = 30 ∧ j = 4)) BN μ μ' ∧ ∃ a, q = some a ∧ a < n ∧ μ'.1 30 4 = nI a) ∨ (¬ roomC (t k).1 q = 0 ∧ r = 0 ∧ Kx (fun a j => a = 30 ∧ j ≤ 4) BN μ μ' ∧ μ'.1 30 0 = nI (roomC (t k).1 q) ∧ μ'.1 30 1 = nI (t k).2.1)) := by
  unfold f_X5_readRoom
  simp only [Nat.reduceAdd]
  rw [T.2.2.2.1, T.2.2.2.2.2]
  by_cases c20 : (t k).1 = 20
  · have hlt : k < K := Nat.lt_of_le_of_ne T.2.1 (fun z => by rw [← z] at hE; omega)
    rw [if_pos (show nI (t k).1 = 20 by rw [c20]; rfl), Ok_vl, hr, gd_t (kd2 hy), show f_X2_find y 0 (nI (t k).2.2.1) μ = some (oI q, μ) by rw [← hq]; exact find_mem (w := 0) (by omega) (by omega) hc _, bd_some, Ok_vl]
    have T1 : CT (sI μ 30 4 (oI q)) t K k := T.of (fun j hj => by rw [sI_i, if_neg (by omega)]) (fun c a b => by funext j; rw [sI_i, if_neg (by omega)])
    have K1 : Kx (fun a j => a = 30 ∧ j = 4) BN μ (sI μ 30 4 (oI q)) := Kx.rfl'.sI ⟨rfl, rfl⟩
    have e4 : (sI μ 30 4 (oI q)).1 30 4 = oI q := by rw [sI_i, if_pos ⟨rfl, rfl⟩]
    generalize sI μ 30 4 (oI q) = μ1 at T1 K1 e4 ⊢
    rw [e4]
    cases q with
    | none =>
      have hC : roomC (t k).1 none = 4 := by unfold roomC; rw [if_pos c20]
      rw [show oI none = -1 from rfl, if_pos rfl, hC]
      refine cfail (y := y) T1 4 fun μ' h => Or.inr ⟨by decide, h.1, ?_, h.2.2.1, h.2.2.2⟩
      exact (K1.wide (fun a j h => ⟨h.1, by omega⟩) (fun _ _ h => h)).trans (h.2.1.wide (fun a j h => ⟨h.1, by omega⟩) (fun _ _ h => h))
    | some a =>
      have hC : roomC (t k).1 (some a) = 0 := by unfold roomC; rw [if_pos c20]
      have ha := fnd_lt hq
      rw [show oI (some a) = nI a from rfl, if_neg (nI_nm1 (by omega)), Ok_bd]
      refine (next_spec hK T1 hlt).mono ?_
      rintro - μ2 ⟨K2, T2⟩
      rw [gd_t (Or.inr rfl), Ok_some]
      exact Or.inl ⟨hC, rfl, T2, (K1.wide (fun _ _ h => Or.inr h) (fun _ _ h => h)).trans (K2.wide (fun _ _ h => Or.inl h) (fun _ _ h => h)), a, rfl, ha.1, by rw [K2.2.1 _ _ (by omega)]; exact e4⟩
  · have hC : roomC (t k).1 q = 1 := by unfold roomC; rw [if_neg c20]
    rw [if_neg (show ¬ nI (t k).1 = 20 from fun z => c20 ((nI_eq (b := 20) (by omega) (by decide)).mp z)), hC]
    exact cfail (y := y) T 1 fun μ' h => Or.inr ⟨by decide, h.1, h.2.1.wide (fun a j h => ⟨h.1, by omega⟩) (fun _ _ h => h), h.2.2.1, h.2.2.2⟩
theorem readNumber_spec (hK : K ≤ 700) (hE : (t K).1 = 22) (h36 : (t k).1 ≤ 36) (hv : (t k).1 = 21 → (t k).2.2.1 < 2 ^ 31) (T : CT μ t K k) {M : Nat} (hM : M < 2 ^ 31) : Ok (f_X5_readNumber 30 (nI M) μ) (fun r μ' => (numC (t k).1 (t k).2.2.1 M = 0 ∧ r = 1 ∧ (t k).2.2.1 ≤ M ∧ CT μ' t K (k + 1) ∧ Kx (fun a j => AX1 a j ∨ (a = 30 ∧ j = 4)) BN μ μ' ∧ μ'.1 30 4 = nI (t k).2.2.1) ∨ (¬ numC (t k).1 (t k).2.2.1 M = 0 ∧ CFl y μ μ' t (numC (t k).1 (t k).2.2.1 M) k r)) := by
  unfold f_X5_readNumber
  simp only [Nat.reduceAdd]
  rw [T.2.2.2.1, T.2.2.2.2.2]
  by_cases c20 : (t k).1 = 21
  · have hlt : k < K := Nat.lt_of_le_of_ne T.2.1 (fun z => by rw [← z] at hE; omega)
    rw [if_pos (show nI (t k).1 = 21 by rw [c20]; rfl)]
    rcases Nat.lt_or_ge M (t k).2.2.1 with z | z
    · have hC : numC (t k).1 (t k).2.2.1 M = 2 := by unfold numC; rw [if_pos c20, if_pos z]
      rw [if_neg (nI_ge z (hv c20)), hC]
      exact cfail (y := y) T 2 fun μ' h => Or.inr ⟨by decide, h⟩
    · have hC : numC (t k).1 (t k).2.2.1 M = 0 := by unfold numC; rw [if_pos c20, if_neg (by omega)]
      rw [if_pos (nI_le z hM), Ok_vl, Ok_bd]
      have T1 : CT (sI μ 30 4 (nI (t k).2.2.1)) t K k := T.of (fun j hj => by rw [sI_i, if_neg (by omega)]) (fun c a b => by funext j; rw [sI_i, if_neg (by omega)])
      have K1 : Kx (fun a j => AX1 a j ∨ (a = 30 ∧ j = 4)) BN μ (sI μ 30 4 (nI (t k).2.2.1)) := Kx.rfl'.sI (Or.inr ⟨rfl, rfl⟩)
      refine (next_spec hK T1 hlt).mono ?_
      rintro - μ2 ⟨K2, T2⟩
      rw [gd_t (Or.inr rfl), Ok_some]
      exact Or.inl ⟨hC, rfl, z, T2, K1.trans (K2.wide (fun _ _ h => Or.inl h) (fun _ _ h => h)), by rw [K2.2.1 _ _ (by omega), sI_i, if_pos ⟨rfl, rfl⟩]⟩
  · have hC : numC (t k).1 (t k).2.2.1 M = 1 := by unfold numC; rw [if_neg c20]
    rw [if_neg (show ¬ nI (t k).1 = 21 from fun z => c20 ((nI_eq (b := 21) (by omega) (by decide)).mp z)), hC]
    exact cfail (y := y) T 1 fun μ' h => Or.inr ⟨by decide, h⟩
theorem readInto_spec (hK : K ≤ 700) (hE : (t K).1 = 22) (h36 : (t k).1 ≤ 36) (hv : (t k).1 = 21 → (t k).2.2.1 < 2 ^ 31) (T : CT μ t K k) {M a z n : Nat} (hM : M < 2 ^ 31) (ha : kd a = (0, z)) (hn : n < z) (hz : z < 2 ^ 31) (ha2 : ¬ (30 ≤ a ∧ a ≤ 36)) : Ok (f_X5_readInto 30 a (nI n) (nI M) μ) (fun r μ' => (numC (t k).1 (t k).2.2.1 M = 0 ∧ r = 1 ∧ (t k).2.2.1 ≤ M ∧ CT μ' t K (k + 1) ∧ Kx (fun c j => AX1 c j ∨ (c = 30 ∧ j = 4) ∨ (c = a ∧ j = n)) BN μ μ' ∧ μ'.1 a n = nI (t k).2.2.1) ∨ (¬ numC (t k).1 (t k).2.2.1 M = 0 ∧ CFl y μ μ' t (numC (t k).1 (t k).2.2.1 M) k r)) := by
  unfold f_X5_readInto
  rw [Ok_bd]
  refine (readNumber_spec (y := y) hK hE h36 hv T hM).mono ?_
  rintro r μ1 (⟨c, rfl, hle, T1, K1, e4⟩ | ⟨c, h⟩)
  · simp only [ha]
    rw [if_neg (by decide), if_neg (nI_pos (by omega)), show Int32.ofNat z = nI z from rfl, if_neg (nI_ge hn hz), gd_t (ixN hn hz), nI_clamp (by omega), Ok_vl, gd_t (Or.inr rfl), Ok_some, e4]
    refine Or.inl ⟨c, rfl, hle, T1.of (fun j hj => by rw [sI_i, if_neg (by omega)]) (fun c a b => by funext j; rw [sI_i, if_neg (by omega)]), (K1.wide (fun c j h => by omega) (fun _ _ h => h)).sI (by omega), by rw [sI_i, if_pos ⟨rfl, rfl⟩]⟩
  · obtain ⟨rfl, h1⟩ := h
    rw [if_pos rfl, gd_t (Or.inl rfl), Ok_some]
    exact Or.inr ⟨c, rfl, h1⟩
end CLine
