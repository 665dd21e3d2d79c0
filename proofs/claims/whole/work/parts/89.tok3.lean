/-! tokens of a text, as the reference takes them -/
def sgc (s : Nat) : Nat := if s = 24 then 59 else if s = 25 then 40 else if s = 26 then 41 else if s = 27 then 60 else if s = 28 then 256 else if s = 29 then 61 else if s = 30 then 257 else if s = 31 then 258 else if s = 32 then 62 else if s = 33 then 43 else if s = 34 then 45 else if s = 35 then 42 else 47
def TV (s v : Nat) (a c : Int32) : Prop := (s < 20 ∧ a = 0 ∧ c = nI s) ∨ (s = 20 ∧ a = 1 ∧ c = nI v) ∨ (s = 21 ∧ a = 2 ∧ ∃ u, c = nI u ∧ u ≤ 1000000 ∧ v ≤ 1000000 ∧ (u = v ∨ (99999 < u ∧ 99999 < v))) ∨ (s = 22 ∧ a = 4) ∨ (s = 23 ∧ a = 5) ∨ (24 ≤ s ∧ s ≤ 36 ∧ a = 3 ∧ c = nI (sgc s))
def CBM (ν : fMem) (b : Nat → Nat) (N : Nat) : Prop := ν.1 181 23 = nI N ∧ N ≤ 700 ∧ ∀ j, j < N → b j ≤ 255 ∧ ν.1 182 j = nI (b j)
abbrev AM (k j : Nat) : Prop := k = 181 ∧ 24 ≤ j ∧ j ≤ 27
theorem CBM.kx {μ μ' : fMem} {b : Nat → Nat} {N : Nat} (H : CBM μ b N) (K : Kx AM BN μ μ') : CBM μ' b N := ⟨by rw [K.2.1 181 23 (by omega)]; exact H.1, H.2.1, fun j hj => ⟨(H.2.2 j hj).1, by rw [K.2.1 182 j (by omega)]; exact (H.2.2 j hj).2⟩⟩
theorem Run.uni {P : Nat → Prop} {b : Nat → Nat} {N p q q' : Nat} (h : Run P b N p q) (h' : Run P b N p q') : q = q' := by
  obtain ⟨a1, a2, a3, a4⟩ := h
  obtain ⟨b1, b2, b3, b4⟩ := h'
  rcases Nat.lt_trichotomy q q' with z | z | z
  · exact absurd (b3 q a1 z) (a4 (by omega))
  · exact z
  · exact absurd (a3 q' b1 z) (b4 (by omega))
def hereV (b : Nat → Nat) (N k : Nat) : Int32 := if k < N then nI (b k) else -1
theorem here_eq {ν : fMem} {b : Nat → Nat} {N k : Nat} (H : CBM ν b N) (ha : ν.1 181 24 = nI k) (hk : k ≤ N) : f_X11_here 181 ν = some (hereV b N k, ν) := by
  have hN := H.2.1
  unfold f_X11_here hereV
  rw [H.1, ha]
  by_cases h : k < N
  · rw [if_neg (nI_ge h (by omega)), gd_t (ixN (by omega) (by omega)), nI_clamp (by omega), if_pos h, (H.2.2 k h).2]
  · rw [if_pos (nI_le (by omega) (by omega)), if_neg h]
theorem hereV_at {b : Nat → Nat} {N k c : Nat} (h : k < N → b k ≤ 255) (hc : 0 < c) (hc2 : c < 2 ^ 31) : hereV b N k = nI c ↔ atB b N k = c := by
  unfold hereV atB
  by_cases q : k < N
  · rw [if_pos q, if_pos q]
    exact nI_eq (by have := h q; omega) hc2
  · rw [if_neg q, if_neg q]
    constructor
    · intro z; exact absurd z.symm (nI_nm1 hc2)
    · intro z; omega
theorem mskip {μ : fMem} {b : Nat → Nat} {N p : Nat} (H : CBM μ b N) (hp : p ≤ N) (ha : μ.1 181 24 = nI p) : Ok (lpn (fun (q : fMem) => f_X11_token_L0 181 q) fuel μ) (fun _ μ' => Kx AM BN μ μ' ∧ ∃ q, Run isB b N p q ∧ μ'.1 181 24 = nI q) := by
  have hN := H.2.1
  refine Ok_lp (N - p) (fun i (q : fMem) => Kx AM BN μ q ∧ q.1 181 24 = nI (p + i) ∧ ∀ j, p ≤ j → j < p + i → isB (b j)) (by omega) ⟨Kx.rfl', ha, fun j a c => by omega⟩ ?_
  rintro i μ1 hi ⟨K1, a1, r1⟩
  have H1 := H.kx K1
  unfold f_X11_token_L0 f_X11_token_j18
  rw [here_eq H1 a1 (by omega), bd_some]
  have hA := fun (c : Nat) (h0 : 0 < c) (h1 : c < 2 ^ 31) => hereV_at (b := b) (N := N) (k := p + i) (c := c) (fun z => (H.2.2 _ z).1) h0 h1
  have fin : p + i < N → isB (b (p + i)) → Ok (vl (sI μ1 181 24 (μ1.1 181 24 + 1)) fun μ10 => some (0, μ10)) (fun t s' => (t = 0 ∧ i < N - p ∧ (Kx AM BN μ s' ∧ s'.1 181 24 = nI (p + (i + 1)) ∧ ∀ j, p ≤ j → j < p + (i + 1) → isB (b j))) ∨ ∃ u, t = u + 1 ∧ (Kx AM BN μ s' ∧ ∃ q, Run isB b N p q ∧ s'.1 181 24 = nI q)) := by
    intro hlt hz
    rw [Ok_vl, Ok_some, a1]
    refine Or.inl ⟨rfl, by omega, K1.sI (by omega), by rw [sI_i, if_pos ⟨rfl, rfl⟩, nI_1]; rfl, fun j q w => ?_⟩
    rcases Nat.lt_or_ge j (p + i) with z | z
    · exact r1 j q z
    · rw [show j = p + i by omega]; exact hz
  have hlt : ∀ c, atB b N (p + i) = c → 0 < c → p + i < N ∧ b (p + i) = c := by
    intro c z h0
    unfold atB at z
    by_cases y : p + i < N
    · rw [if_pos y] at z; exact ⟨y, z⟩
    · rw [if_neg y] at z; omega
  by_cases h1 : hereV b N (p + i) = nI 10
  · have := hlt 10 ((hA 10 (by decide) (by decide)).mp h1) (by decide)
    rw [if_pos (show hereV b N (p + i) = 10 from h1)]
    exact fin this.1 (Or.inl this.2)
  · rw [if_neg (show ¬ hereV b N (p + i) = 10 from h1), here_eq H1 a1 (by omega), bd_some]
    by_cases h2 : hereV b N (p + i) = nI 32
    · have := hlt 32 ((hA 32 (by decide) (by decide)).mp h2) (by decide)
      rw [if_pos (show hereV b N (p + i) = 32 from h2)]
      exact fin this.1 (Or.inr this.2)
    · rw [if_neg (show ¬ hereV b N (p + i) = 32 from h2), Ok_some]
      refine Or.inr ⟨0, rfl, K1, p + i, ⟨by omega, by omega, r1, fun y z => ?_⟩, a1⟩
      have e : atB b N (p + i) = b (p + i) := if_pos y
      rcases z with z | z
      · exact h1 ((hA 10 (by decide) (by decide)).mpr (e.trans z))
      · exact h2 ((hA 32 (by decide) (by decide)).mpr (e.trans z))
def wl (w : Nat) : Nat := [4, 4, 5, 4, 5, 4, 3, 4, 4, 4, 2, 3, 3, 3, 4, 5, 4, 4, 5, 6].getD w 0
def wo (w : Nat) : Nat := [0, 5, 10, 16, 21, 27, 32, 36, 41, 46, 51, 54, 58, 62, 66, 71, 77, 82, 87, 93].getD w 100
def wcn (k : Nat) : Nat := (wch (nI k)).toNatClampNeg
theorem wt1 : ∀ w, w < 20 → 1 ≤ wl w ∧ wl w ≤ 6 ∧ wo (w + 1) = wo w + wl w + 1 ∧ wo w + wl w < 100 := by decide
theorem wt2 : ∀ w, w < 20 → ∀ i, i < 6 → i < wl w → isL (wcn (wo w + i)) ∧ wch (nI (wo w + i)) = nI (wcn (wo w + i)) := by decide +kernel
theorem wt3 : ∀ w, w < 20 → wch (nI (wo w + wl w)) = 32 := by decide +kernel
theorem wt4 : ∀ w, w < 20 → lwT w = nI (wvn (fun i => if i < wl w then wcn (wo w + i) - 96 else 0) 6) := by decide +kernel
def Mt (b : Nat → Nat) (p L w : Nat) : Prop := L = wl w ∧ ∀ i, i < L → b (p + i) = wcn (wo w + i)
theorem wvn_inj {d e : Nat → Nat} : ∀ {n : Nat}, (∀ i, i < n → d i < 32) → (∀ i, i < n → e i < 32) → wvn d n = wvn e n → ∀ i, i < n → d i = e i
  | 0, _, _, _, i, hi => by omega
  | n + 1, hd, he, h, i, hi => by
    unfold wvn at h
    have a := hd n (by omega)
    have c := he n (by omega)
    rcases Nat.lt_or_ge i n with z | z
    · exact wvn_inj (n := n) (fun i hi => hd i (by omega)) (fun i hi => he i (by omega)) (by omega) i z
    · rw [show i = n by omega]; omega
theorem mt_iff {b : Nat → Nat} {p L w : Nat} (hw : w < 20) (hL : L ≤ 6) (hl : ∀ i, i < L → isL (b (p + i))) : lwT w = nI (wvn (dg b p L) 6) ↔ Mt b p L w := by
  obtain ⟨t1, t2, t3, t4⟩ := wt1 w hw
  have d1 : ∀ i, i < 6 → dg b p L i < 32 := by
    intro i hi
    unfold dg
    split
    · have := hl i (by assumption); omega
    · omega
  have d2 : ∀ i, i < 6 → (fun i => if i < wl w then wcn (wo w + i) - 96 else 0) i < 32 := by
    intro i hi
    dsimp only
    split
    · have := (wt2 w hw i hi (by assumption)).1; omega
    · omega
  rw [wt4 w hw]
  constructor
  · intro h
    have h1 := wvn_lt d1
    have h2 := wvn_lt d2
    have h := (nI_eq (by omega) (by omega)).mp h
    have hi := wvn_inj d2 d1 h
    have hLw : L = wl w := by
      rcases Nat.lt_trichotomy L (wl w) with z | z | z
      · have a := hi L (by omega)
        have c := (wt2 w hw L (by omega) z).1
        unfold dg at a
        rw [if_pos z, if_neg (by omega)] at a
        omega
      · exact z
      · have a := hi (wl w) (by omega)
        have c := hl (wl w) z
        unfold dg at a
        rw [if_neg (by omega), if_pos z] at a
        omega
    refine ⟨hLw, fun i h => ?_⟩
    have a := hi i (by omega)
    have c := (wt2 w hw i (by omega) (by omega)).1
    have c2 := hl i h
    unfold dg at a
    rw [if_pos (by omega), if_pos h] at a
    omega
  · rintro ⟨hLw, he⟩
    congr 1
    refine wvn_congr fun i hi => ?_
    unfold dg
    by_cases z : i < L
    · rw [if_pos (by omega), if_pos z, he i z]
    · rw [if_neg (by omega), if_neg z]
theorem word_spec {ν : fMem} {b : Nat → Nat} {N p q : Nat} (H : CBM ν b N) (hr : Run isL b N p q) (h4 : ν.1 181 24 = nI q) (h5 : ν.1 181 25 = nI p) : Ok (f_X11_word 181 ν) (fun r ν' => ν' = ν ∧ ((∃ w, w < 20 ∧ Mt b p (q - p) w ∧ r = nI w) ∨ ((∀ w, w < 20 → ¬ Mt b p (q - p) w) ∧ r = -1))) := by
  have hN := H.2.1
  have r1 := hr.1
  have r2 := hr.2.1
  unfold f_X11_word
  rw [Ok_bd]
  refine Ok.mono (Q := fun u (z : Int32 × Int32 × fMem) => z.2.2 = ν ∧ ((u = 1 ∧ ∃ w, w < 20 ∧ Mt b p (q - p) w ∧ z.1 = nI w) ∨ (u = 0 ∧ ∀ w, w < 20 → ¬ Mt b p (q - p) w))) (Ok_lp 20 (fun i (z : Int32 × Int32 × fMem) => z.1 = nI i ∧ z.2.1 = nI (wo i) ∧ z.2.2 = ν ∧ ∀ w, w < i → ¬ Mt b p (q - p) w) (by decide) ⟨rfl, rfl, rfl, fun w h => by omega⟩ ?_) ?_
  · rintro i ⟨x1, y1, ν1⟩ hi ⟨hx, hy, hν, hm⟩
    dsimp only at hx hy hν ⊢
    subst hx hy hν
    unfold f_X11_word_L4
    rw [show Int32.ofNat (lenW 1) = nI 100 from rfl, show lenW 1 = 100 from rfl]
    rcases Nat.lt_or_ge i 20 with c | c
    · obtain ⟨t1, t2, t3, t4⟩ := wt1 i c
      rw [if_neg (nI_ge (show wo i < 100 by omega) (by decide)), Ok_bd]
      refine Ok.mono (Q := fun _ (z : Int32 × fMem) => z.2 = ν1 ∧ ∃ y, z.1 = nI y ∧ y ≤ wl i ∧ y ≤ q - p ∧ (∀ j, j < y → b (p + j) = wcn (wo i + j)) ∧ (y = wl i ∨ y = q - p ∨ ¬ b (p + y) = wcn (wo i + y))) (Ok_lp (wl i) (fun y (z : Int32 × fMem) => z.1 = nI y ∧ z.2 = ν1 ∧ y ≤ q - p ∧ (∀ j, j < y → b (p + j) = wcn (wo i + j))) (by omega) ⟨rfl, rfl, by omega, fun j hj => by omega⟩ ?_) ?_
      · rintro y ⟨x2, ν2⟩ hy ⟨hx, hν, hyq, hye⟩
        dsimp only at hx hν ⊢
        subst hx hν
        unfold f_X11_word_L15
        simp only [show lenW 1 = 100 from rfl, nI_add, Nat.reduceAdd]
        rw [gd_t (show ixo (nI (wo i + y)) 100 from ixN (by omega) (by decide))]
        rcases Nat.lt_or_ge y (wl i) with cy | cy
        · obtain ⟨u1, u2⟩ := wt2 i c y (by omega) cy
          rw [u2, if_neg (show ¬ nI (wcn (wo i + y)) = 32 from fun z => by have := (nI_eq (b := 32) (by omega) (by decide)).mp z; omega), h5, h4, nI_add]
          rcases Nat.lt_or_ge (p + y) q with cq | cq
          · rw [if_neg (nI_ge cq (by omega))]
            simp only [gd_t (show ixo (nI (p + y)) 700 from ixN (by omega) (by decide)), gd_t (show ixo (nI (wo i + y)) 100 from ixN (by omega) (by decide)), nI_clamp (show p + y < 2 ^ 31 by omega), (H.2.2 (p + y) (by omega)).2]
            have hb := (H.2.2 (p + y) (by omega)).1
            by_cases e : b (p + y) = wcn (wo i + y)
            · rw [if_pos (by rw [e]), Ok_vl, Ok_some, nI_1]
              refine Or.inl ⟨rfl, cy, rfl, rfl, by omega, fun j hj => ?_⟩
              rcases Nat.lt_or_ge j y with z | z
              · exact hye j z
              · rw [show j = y by omega]; exact e
            · rw [if_neg (fun z => e ((nI_eq (by omega) (by omega)).mp z)), Ok_some]
              exact Or.inr ⟨0, rfl, rfl, y, rfl, hy, hyq, hye, Or.inr (Or.inr e)⟩
          · rw [if_pos (nI_le cq (by omega)), Ok_some]
            exact Or.inr ⟨0, rfl, rfl, y, rfl, hy, hyq, hye, Or.inr (Or.inl (by omega))⟩
        · rw [show y = wl i by omega, wt3 i c, if_pos rfl, Ok_some]
          exact Or.inr ⟨0, rfl, rfl, wl i, rfl, by omega, by omega, by rw [show wl i = y by omega]; exact hye, Or.inl rfl⟩
      · rintro - ⟨x2, ν2⟩ ⟨hν, y, hx, hy, hyq, hye, ho⟩
        dsimp only at hν hx ⊢
        subst hν hx
        rw [nI_add, gd_t (show ixo (nI (wo i + y)) 100 from ixN (by omega) (by decide))]
        have go : ¬ Mt b p (q - p) i → Ok (f_X11_word_j97 181 (nI i) (nI (wo i)) ν2) (fun t s' => (t = 0 ∧ i < 20 ∧ (s'.1 = nI (i + 1) ∧ s'.2.1 = nI (wo (i + 1)) ∧ s'.2.2 = ν2 ∧ ∀ w, w < i + 1 → ¬ Mt b p (q - p) w)) ∨ ∃ u, t = u + 1 ∧ (s'.2.2 = ν2 ∧ ((u = 1 ∧ ∃ w, w < 20 ∧ Mt b p (q - p) w ∧ s'.1 = nI w) ∨ (u = 0 ∧ ∀ w, w < 20 → ¬ Mt b p (q - p) w)))) := by
          intro hn
          unfold f_X11_word_j97
          rw [Ok_bd]
          refine Ok.mono (Q := fun _ (z : Int32 × fMem) => z.2 = ν2 ∧ z.1 = nI (wo i + wl i)) (Ok_lp (wl i) (fun y (z : Int32 × fMem) => z.1 = nI (wo i + y) ∧ z.2 = ν2) (by omega) ⟨rfl, rfl⟩ ?_) ?_
          · rintro y' ⟨x3, ν3⟩ hy' ⟨hx, hν⟩
            dsimp only at hx hν ⊢
            subst hx hν
            unfold f_X11_word_L97
            rw [show lenW 1 = 100 from rfl, gd_t (show ixo (nI (wo i + y')) 100 from ixN (by omega) (by decide))]
            rcases Nat.lt_or_ge y' (wl i) with cy | cy
            · obtain ⟨u1, u2⟩ := wt2 i c y' (by omega) cy
              rw [u2, if_neg (show ¬ nI (wcn (wo i + y')) = 32 from fun z => by have := (nI_eq (b := 32) (by omega) (by decide)).mp z; omega), Ok_vl, Ok_some, nI_1]
              exact Or.inl ⟨rfl, cy, rfl, rfl⟩
            · rw [show y' = wl i by omega, wt3 i c, if_pos rfl, Ok_some]
              exact Or.inr ⟨0, rfl, rfl, rfl⟩
          · rintro - ⟨x3, ν3⟩ ⟨hν, hx⟩
            dsimp only at hx hν ⊢
            subst hx hν
            rw [Ok_vl, Ok_vl, Ok_some, nI_1, nI_1, ← t3]
            refine Or.inl ⟨rfl, c, rfl, rfl, rfl, fun w hw => ?_⟩
            rcases Nat.lt_or_ge w i with z | z
            · exact hm w z
            · rw [show w = i by omega]; exact hn
        by_cases cy : y = wl i
        · rw [cy, wt3 i c, if_pos rfl, h5, h4, nI_add]
          by_cases cq : p + wl i = q
          · rw [if_pos (by rw [cq]), Ok_some]
            exact Or.inr ⟨1, rfl, rfl, Or.inl ⟨rfl, i, c, ⟨by omega, fun j hj => hye j (by omega)⟩, rfl⟩⟩
          · rw [if_neg (fun z => cq ((nI_eq (by omega) (by omega)).mp z))]
            exact go fun z => cq (by have := z.1; omega)
        · obtain ⟨u1, u2⟩ := wt2 i c y (by omega) (by omega)
          rw [u2, if_neg (show ¬ nI (wcn (wo i + y)) = 32 from fun z => by have := (nI_eq (b := 32) (by omega) (by decide)).mp z; omega)]
          refine go fun z => ?_
          have z1 := z.1
          rcases ho with o | o | o
          · exact cy o
          · omega
          · exact o (z.2 y (by omega))
    · have hi20 : i = 20 := by omega
      subst hi20
      rw [if_pos (show nI 100 ≤ nI (wo 20) by decide), Ok_some]
      exact Or.inr ⟨0, rfl, rfl, Or.inr ⟨rfl, hm⟩⟩
  · rintro u ⟨x1, y1, ν1⟩ ⟨hν, h⟩
    dsimp only at hν h ⊢
    subst hν
    rcases h with ⟨rfl, w, a, m, e⟩ | ⟨rfl, h⟩
    · rw [if_neg (by decide), Ok_some]
      exact ⟨rfl, Or.inl ⟨w, a, m, e⟩⟩
    · rw [if_pos rfl, Ok_some]
      exact ⟨rfl, Or.inr ⟨h, rfl⟩⟩
theorem shl5 {a c : Nat} (ha : a < 2 ^ 25) (hc : c < 32) : shl (nI a) 5 ||| nI c = nI (a * 32 + c) := by
  apply Int32.toBitVec_inj.mp
  apply BitVec.eq_of_toNat_eq
  have e1 : (shl (nI a) 5).toBitVec.toNat = a * 32 := by
    have : (shl (nI a) 5).toBitVec = BitVec.ofNat 32 a <<< (5 : Nat) := rfl
    rw [this, BitVec.toNat_shiftLeft, BitVec.toNat_ofNat, Nat.mod_eq_of_lt (show a < 2 ^ 32 by omega), Nat.shiftLeft_eq]
    omega
  have e2 : ∀ x : Nat, x < 2 ^ 31 → (nI x).toBitVec.toNat = x := by
    intro x hx
    show (BitVec.ofNat 32 x).toNat = x
    rw [BitVec.toNat_ofNat]
    omega
  rw [Int32.toBitVec_or, BitVec.toNat_or, e1, e2 c (by omega), e2 _ (by omega)]
  have := Nat.shiftLeft_add_eq_or_of_lt (show c < 2 ^ 5 by omega) a
  rw [Nat.shiftLeft_eq] at this
  exact this.symm
theorem name_spec {ν : fMem} {b : Nat → Nat} {N p q : Nat} (H : CBM ν b N) (hr : Run isL b N p q) (h4 : ν.1 181 24 = nI q) (h5 : ν.1 181 25 = nI p) (hL : q - p ≤ 6) : Ok (f_X11_name 181 ν) (fun _ ν' => ν' = sI ν 181 27 (nI (wvn (dg b p (q - p)) 6))) := by
  have hN := H.2.1
  have r1 := hr.1
  have r2 := hr.2.1
  have d1 : ∀ i, dg b p (q - p) i < 32 := by
    intro i
    unfold dg
    split
    · have := hr.2.2.1 (p + i) (by omega) (by omega); omega
    · omega
  have ss : ∀ {m : fMem} {v v' : Int32}, sI (sI m 181 27 v) 181 27 v' = sI m 181 27 v' := by
    intro m v v'
    refine Prod.ext ?_ rfl
    funext k j
    rw [sI_i, sI_i, sI_i]
    by_cases z : k = 181 ∧ j = 27
    · rw [if_pos z, if_pos z]
    · rw [if_neg z, if_neg z, if_neg z]
  unfold f_X11_name
  rw [Ok_vl, Ok_bd]
  refine Ok.mono (Q := fun _ (z : Int32 × fMem) => z.2 = sI ν 181 27 (nI (wvn (dg b p (q - p)) 6))) (Ok_lp 6 (fun i (z : Int32 × fMem) => z.1 = nI i ∧ z.2 = sI ν 181 27 (nI (wvn (dg b p (q - p)) i))) (by decide) ⟨rfl, rfl⟩ ?_) ?_
  · rintro i ⟨x1, ν1⟩ hi ⟨hx, hν⟩
    dsimp only at hx hν ⊢
    subst hx
    have e4 : ν1.1 181 24 = nI q := by rw [hν, sI_i, if_neg (by omega)]; exact h4
    have e5 : ν1.1 181 25 = nI p := by rw [hν, sI_i, if_neg (by omega)]; exact h5
    have e7 : ν1.1 181 27 = nI (wvn (dg b p (q - p)) i) := by rw [hν, sI_i, if_pos ⟨rfl, rfl⟩]
    have eb : ν1.1 182 = ν.1 182 := by funext j; rw [hν, sI_i, if_neg (by omega)]
    have hlt := wvn_lt (n := i) (d := dg b p (q - p)) fun i _ => d1 i
    unfold f_X11_name_L7
    rw [e4, e5, e7, nI_add]
    simp only [Nat.reduceAdd, eb]
    rcases Nat.lt_or_ge i 6 with c | c
    · have hlt : wvn (dg b p (q - p)) i < 2 ^ 25 := Nat.lt_of_lt_of_le hlt (by
        rw [show (2 : Nat) ^ 25 = 32 ^ 5 by decide]
        exact Nat.pow_le_pow_right (by decide) (by omega))
      rw [if_neg (show ¬ 6 ≤ nI i from nI_ge (b := 6) c (by decide))]
      rcases Nat.lt_or_ge (p + i) q with cq | cq
      · have hl := hr.2.2.1 (p + i) (by omega) cq
        have ed : dg b p (q - p) i = b (p + i) - 96 := if_pos (by omega)
        rw [if_neg (nI_ge cq (by omega)), gd_t (ixN (by omega) (by decide)), nI_clamp (by omega), (H.2.2 (p + i) (by omega)).2, Ok_vl, Ok_vl, Ok_some, nI_1, show nI (b (p + i)) - 97 + 1 = nI (b (p + i) - 96) by rw [show b (p + i) = (b (p + i) - 97) + 97 by omega, show (97 : Int32) = nI 97 from rfl, nI_sub, nI_1, show b (p + i) - 97 + 97 - 96 = b (p + i) - 97 + 1 by omega], shl5 hlt (by omega), hν, ss]
        exact Or.inl ⟨rfl, c, rfl, by rw [← ed]; rfl⟩
      · have ed : dg b p (q - p) i = 0 := if_neg (by omega)
        rw [if_pos (nI_le cq (by omega)), Ok_vl, Ok_vl, Ok_some, nI_1, show (0 : Int32) = nI 0 from rfl, shl5 hlt (by omega), hν, ss]
        exact Or.inl ⟨rfl, c, rfl, by rw [← ed]; rfl⟩
    · rw [if_pos (show 6 ≤ nI i from nI_le (a := 6) c (by omega)), Ok_some]
      exact Or.inr ⟨0, rfl, by rw [hν, show i = 6 by omega]⟩
  · rintro - ⟨x1, ν1⟩ h
    exact Ok_some.mpr h
