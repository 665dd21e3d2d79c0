/-! hanging, ropes, dust; Mondays go by -/
section Sim8
theorem psh_ok {V : HV} {p : SK} {L : List SK} (hp : SKw V p) (h : L.length ≤ 20 ∧ ∀ q ∈ L, SKw V q) : (psh p L).length ≤ 20 ∧ ∀ q ∈ psh p L, SKw V q := by
  unfold psh
  by_cases c : L.length = 20
  · rw [if_pos c]
    refine ⟨by simp; omega, fun q hq => ?_⟩
    rcases List.mem_cons.mp hq with rfl | hq
    · exact hp
    · exact h.2 q (List.dropLast_subset L hq)
  · rw [if_neg c]
    refine ⟨by simp only [List.length_cons]; omega, fun q hq => ?_⟩
    rcases List.mem_cons.mp hq with rfl | hq
    · exact hp
    · exact h.2 q hq
theorem XW.psh {V : HV} {XI : Option SV} {XT : List SK} {XR : (Nat × (Nat → Nat → Int32) × Int32) × (Nat × (Nat → Int32)) × (Int32 × Int32)} {p : SK} (hX : XW V (XI, XT, XR)) (hp : SKw V p) : XW V (XI, psh p XT, XR) := ⟨hX.1, psh_ok hp hX.2.1, hX.2.2⟩
theorem RM.stroke {ν ν1 ν2 : fMem} {V : HV} {S S' : SV} {XI : Option SV} {XT L1 : List SK} {XR : (Nat × (Nat → Nat → Int32) × Int32) × (Nat × (Nat → Int32)) × (Int32 × Int32)} {p : SK} (hV : HW V) (M : RM ν V S (XI, XT, XR)) (hl : XT.length ≤ 20) (K1 : Kx AU BN ν ν1) (hL : L1 = (if XT.length = 20 then XT.dropLast else XT)) (e1 : ν1.1 181 46 = nI (L1.length + 1)) (m1 : MSt ν1 (3 + L1.length) V S 0 (-1)) (u1 : MUr ν1 V S L1) (z : ∀ c j, ¬ Px 0 c j → ν2.1 c j = ν1.1 c j) (mS : MSt ν2 0 V S' 0 (-1)) (hu : undo1 S' p = S) : RM ν2 V S' (XI, psh p XT, XR) := by
  have v8 : V.1 2 ≤ 8 := hV.2.2.1
  have hl1 : L1.length ≤ 20 := by
    rw [hL]; split
    · simp; omega
    · exact hl
  have zp : ∀ {c y j : Nat}, 3 ≤ y → Px y c j → ν2.1 c j = ν1.1 c j := fun h q => z _ _ (by unfold Px at q ⊢; omega)
  have ep : psh p XT = p :: L1 := by unfold psh; rw [hL]
  rw [ep]
  refine M.toS hV (fun c j h1 h2 h3 => ?_) mS ⟨?_, ?_, ?_⟩
  · rw [z c j h1]; exact K1.2.1 c j (by rintro (q | q); exact h3 ⟨q.1, Or.inl q.2⟩; exact h2 q)
  · rw [z 181 46 (by unfold Px; omega)]; exact e1
  · rw [hu]
    exact m1.of v8 (fun c a b j hj => zp (y := 3 + L1.length) (by omega) (by unfold Px; omega)) (fun c a b j hj => zp (y := 3 + L1.length) (by omega) (by unfold Px; omega)) (zp (y := 3 + L1.length) (by omega) (by unfold Px; omega)) (zp (y := 3 + L1.length) (by omega) (by unfold Px; omega))
  · rw [hu]
    exact MUr.of v8 (fun c y j a b q => zp a q) hl1 u1
theorem AU_0 {ν ν1 : fMem} {V : HV} {S : SV} (h8 : V.1 2 ≤ 8) (K : Kx AU BN ν ν1) (mS : MSt ν 0 V S 0 (-1)) : MSt ν1 0 V S 0 (-1) := by
  have k : ∀ c j, Px 0 c j → ν1.1 c j = ν.1 c j := fun c j q => K.2.1 c j (by rintro (z | ⟨y, a, b, z⟩); unfold Px at q; omega; unfold Px at q z; omega)
  exact mS.of h8 (fun c a b j hj => k _ _ (by unfold Px; omega)) (fun c a b j hj => k _ _ (by unfold Px; omega)) (k _ _ (by unfold Px; omega)) (k _ _ (by unfold Px; omega))
theorem RC.stroke {μ μ1 μ2 : fMem} {V : HV} {S S' : SV} {XI : Option SV} {XT : List SK} {XR : (Nat × (Nat → Nat → Int32) × Int32) × (Nat × (Nat → Int32)) × (Int32 × Int32)} {h : Nat} {p : SK} (C : RC μ V S (XI, XT, XR) h) (K1 : Kp sT [] μ μ1) (e1 : μ1.1 130 0 = nI (psh p XT).length) (c1 : CTr μ1 (psh p XT)) (K2 : Kp [66, 67, 70] [] μ1 μ2) (cS : CS μ2 66 V S') : RC μ2 V S' (XI, psh p XT, XR) h := by
  have kk : ∀ k, ¬ (k = 66 ∨ k = 67 ∨ k = 70) → μ2.1 k = μ1.1 k := fun k hk => K2.2.1 k (by simp only [List.mem_cons, List.not_mem_nil, or_false]; exact hk)
  refine C.toS (fun k hk => (kk k (by omega)).trans (K1.2.1 k (by simp only [sT, List.mem_cons, List.not_mem_nil, or_false]; omega))) ((K2.2.2 121 (List.not_mem_nil)).trans (K1.2.2 121 (List.not_mem_nil))) (fun k j _ => (K2.r k j).trans (K1.r k j)) cS ⟨by rw [kk 130 (by omega)]; exact e1, CTr.of (fun k a b => kk k (by omega)) c1⟩
theorem up_back {S : SV} {i j : Nat} {v : Int32} : up (up S i j v) i j (S i j) = S := by
  funext i' j'
  by_cases q : i' = i ∧ j' = j
  · obtain ⟨rfl, rfl⟩ := q; rw [up_at]
  · rw [up_ne q, up_ne q]
theorem sim_hang (a b : Int32) : Sim Rel (f_X10_hang 0 a b) (f_X11_hang 181 a b) := by
  refine simX fun μ ν V S X h hV hS hX C M => ?_
  obtain ⟨XI, XT, XR⟩ := X
  have h6 : V.1 0 ≤ 6 := hV.1
  have h8 : V.1 2 ≤ 8 := hV.2.2.1
  have M0 := rm_th hV hX M
  have b0 : bl (0 : Int32) := Or.inl rfl
  have b1 : bl (1 : Int32) := Or.inr rfl
  by_cases ca : hs (V.1 2) a
  rotate_left
  · refine ⟨0, S, (XI, XT, XR), hS, hX, ?_, ?_⟩
    · unfold f_X10_hang
      refine rc_h C ?_
      rw [has2 C.2.2.2.1, bd_some, if_neg ca, if_pos rfl, gd_t b0]; exact rcq C
    · unfold f_X11_hang
      show Ok _ _
      rw [Ok_vl, isThing_eq M0.1, bd_some, if_neg ca, if_pos rfl, gd_t b0]; exact rmq M0
  by_cases cb : hs (V.1 0) b
  rotate_left
  · refine ⟨0, S, (XI, XT, XR), hS, hX, ?_, ?_⟩
    · unfold f_X10_hang
      refine rc_h C ?_
      rw [has2 C.2.2.2.1, bd_some, if_pos ca, if_neg (by decide)]
      refine rc_h C ?_
      rw [has0 C.2.2.2.1, bd_some, if_neg cb, if_pos rfl, gd_t b0]; exact rcq C
    · unfold f_X11_hang
      show Ok _ _
      rw [Ok_vl, isThing_eq M0.1, bd_some, if_pos ca, if_neg (by decide), isRoom_eq M0.1, bd_some, if_neg cb, if_pos rfl, gd_t b0]; exact rmq M0
  obtain ⟨t, ht, rfl⟩ := hs_ex ca (by omega)
  have ix8 : ixo (nI t) 8 := ixN (by omega) (by omega)
  have ix9 : ixo (nI t) 184 := ixN (by omega) (by omega)
  have cat : μ.1 67 t = S 0 t := C.2.2.2.2.1.1 t ht
  have mat : (sI ν 181 0 0).1 206 t = S 0 t := by
    have := M0.2.1.1 t ht
    rw [if_neg (by rintro ⟨z, -⟩; exact absurd z (by decide)), show 8 * 0 + t = t by omega] at this
    exact this
  by_cases e : S 0 t = b
  · refine ⟨0, S, (XI, XT, XR), hS, hX, ?_, ?_⟩
    · unfold f_X10_hang
      refine rc_h C ?_
      rw [has2 C.2.2.2.1, bd_some, if_pos ca, if_neg (by decide)]
      refine rc_h C ?_
      simp only [Nat.reduceAdd]
      rw [has0 C.2.2.2.1, bd_some, if_pos cb, if_neg (by decide)]
      simp only [gd_t ix8, gd_t ix9]
      rw [nI_clamp (by omega), cat, if_pos e, gd_t b0]; exact rcq C
    · unfold f_X11_hang
      show Ok _ _
      simp only [Nat.reduceAdd]
      rw [Ok_vl, isThing_eq M0.1, bd_some, if_pos ca, if_neg (by decide), isRoom_eq M0.1, bd_some, if_pos cb, if_neg (by decide)]
      simp only [gd_t ix8, gd_t ix9]
      rw [nI_clamp (by omega), mat, if_pos e, gd_t b0]; exact rmq M0
  obtain ⟨r, hr, er⟩ := hs_ex cb (by omega)
  have hp : SKw V (0, t, S 0 t) := Or.inl ⟨rfl, ht, hS.1 t ht⟩
  refine ⟨1, up S 0 t b, (XI, psh (0, t, S 0 t) XT, XR), hS.put (fun _ => ⟨r, hr, er⟩) (Or.inl rfl), hX.psh hp, ?_, ?_⟩
  · unfold f_X10_hang
    refine rc_h C ?_
    rw [has2 C.2.2.2.1, bd_some, if_pos ca, if_neg (by decide)]
    refine rc_h C ?_
    simp only [Nat.reduceAdd]
    rw [has0 C.2.2.2.1, bd_some, if_pos cb, if_neg (by decide)]
    simp only [gd_t ix8, gd_t ix9]
    rw [nI_clamp (by omega), cat, if_neg e, Ok_bd]
    refine (add8_spec (p := (0, t, S 0 t)) hX.2.1.1 C.2.2.2.2.2.2.2.1.1 C.2.2.2.2.2.2.2.1.2).mono ?_
    rintro - μ1 ⟨K1, e1, c1⟩
    rw [Ok_vl, gd_t b1, Ok_some]
    refine ⟨rfl, C.stroke K1 e1 c1 (Kp.rfl'.sI (by simp)) ?_⟩
    have cs1 : CS μ1 66 V S := C.2.2.2.2.1.of fun k a b => K1.2.1 k (by simp only [sT, List.mem_cons, List.not_mem_nil, or_false]; omega)
    exact cs1.put (i := 0) (by omega) (fun _ => ht) b
  · unfold f_X11_hang
    show Ok _ _
    simp only [Nat.reduceAdd]
    rw [Ok_vl, isThing_eq M0.1, bd_some, if_pos ca, if_neg (by decide), isRoom_eq M0.1, bd_some, if_pos cb, if_neg (by decide)]
    simp only [gd_t ix8, gd_t ix9]
    rw [nI_clamp (by omega), mat, if_neg e, Ok_bd]
    refine (keepNow_spec h8 hX.2.1.1 M0.2.2.2.2.1.1 M0.2.1 M0.2.2.2.2.1.2).mono ?_
    rintro - ν1 ⟨K1, L1, hL, e1, m1, u1⟩
    rw [Ok_vl, gd_t b1, Ok_some]
    have mp := (AU_0 h8 K1 M0.2.1).put8 (i := 0) (j := t) (by omega) (by omega) b (fun _ z => absurd z.1 (by decide))
    rw [show 8 * 0 + t = t by omega] at mp
    exact ⟨rfl, M0.stroke hV hX.2.1.1 K1 hL e1 m1 u1 (fun c j q => by rw [sI_i, if_neg (by unfold Px at q; omega)]) mp (by unfold undo1; rw [if_pos rfl]; exact up_back)⟩
theorem sim_dust (a : Int32) : Sim Rel (f_X10_dust 0 a) (f_X11_dust 181 a) := by
  refine simX fun μ ν V S X h hV hS hX C M => ?_
  obtain ⟨XI, XT, XR⟩ := X
  have h6 : V.1 0 ≤ 6 := hV.1
  have h8 : V.1 2 ≤ 8 := hV.2.2.1
  have M0 := rm_th hV hX M
  have b0 : bl (0 : Int32) := Or.inl rfl
  have b1 : bl (1 : Int32) := Or.inr rfl
  by_cases ca : hs (V.1 0) a
  rotate_left
  · refine ⟨0, S, (XI, XT, XR), hS, hX, ?_, ?_⟩
    · unfold f_X10_dust
      refine rc_h C ?_
      rw [has0 C.2.2.2.1, bd_some, if_neg ca, if_pos rfl, gd_t b0]; exact rcq C
    · unfold f_X11_dust
      show Ok _ _
      rw [Ok_vl, isRoom_eq M0.1, bd_some, if_neg ca, if_pos rfl, gd_t b0]; exact rmq M0
  obtain ⟨r, hr, rfl⟩ := hs_ex ca (by omega)
  have ix8 : ixo (nI r) 6 := ixN (by omega) (by omega)
  have ix9 : ixo (nI r) 138 := ixN (by omega) (by omega)
  have cat : μ.1 70 r = S 3 r := C.2.2.2.2.1.2.2.2.1 r (by omega)
  have mat : (sI ν 181 0 0).1 209 r = S 3 r := by
    have := M0.2.1.2.2.2.1 r (by omega)
    rw [show 6 * 0 + r = r by omega] at this
    exact this
  by_cases e : S 3 r = 0
  · refine ⟨0, S, (XI, XT, XR), hS, hX, ?_, ?_⟩
    · unfold f_X10_dust
      refine rc_h C ?_
      simp only [Nat.reduceAdd]
      rw [has0 C.2.2.2.1, bd_some, if_pos ca, if_neg (by decide)]
      simp only [gd_t ix8, gd_t ix9]
      rw [nI_clamp (by omega), cat, if_pos e, gd_t b0]; exact rcq C
    · unfold f_X11_dust
      show Ok _ _
      simp only [Nat.reduceAdd]
      rw [Ok_vl, isRoom_eq M0.1, bd_some, if_pos ca, if_neg (by decide)]
      simp only [gd_t ix8, gd_t ix9]
      rw [nI_clamp (by omega), mat, if_pos e, gd_t b0]; exact rmq M0
  have hp : SKw V (2, r, S 3 r) := Or.inr (Or.inr ⟨rfl, hr⟩)
  refine ⟨1, up S 3 r 0, (XI, psh (2, r, S 3 r) XT, XR), hS.put (fun z => by omega) (by omega), hX.psh hp, ?_, ?_⟩
  · unfold f_X10_dust
    refine rc_h C ?_
    simp only [Nat.reduceAdd]
    rw [has0 C.2.2.2.1, bd_some, if_pos ca, if_neg (by decide)]
    simp only [gd_t ix8, gd_t ix9]
    rw [nI_clamp (by omega), cat, if_neg e, Ok_bd]
    refine (add8_spec (p := (2, r, S 3 r)) hX.2.1.1 C.2.2.2.2.2.2.2.1.1 C.2.2.2.2.2.2.2.1.2).mono ?_
    rintro - μ1 ⟨K1, e1, c1⟩
    rw [Ok_vl, gd_t b1, Ok_some]
    refine ⟨rfl, C.stroke K1 e1 c1 (Kp.rfl'.sI (by simp)) ?_⟩
    have cs1 : CS μ1 66 V S := C.2.2.2.2.1.of fun k a b => K1.2.1 k (by simp only [sT, List.mem_cons, List.not_mem_nil, or_false]; omega)
    exact cs1.put (i := 3) (by omega) (fun z => by omega) 0
  · unfold f_X11_dust
    show Ok _ _
    simp only [Nat.reduceAdd]
    rw [Ok_vl, isRoom_eq M0.1, bd_some, if_pos ca, if_neg (by decide)]
    simp only [gd_t ix8, gd_t ix9]
    rw [nI_clamp (by omega), mat, if_neg e, Ok_bd]
    refine (keepNow_spec h8 hX.2.1.1 M0.2.2.2.2.1.1 M0.2.1 M0.2.2.2.2.1.2).mono ?_
    rintro - ν1 ⟨K1, L1, hL, e1, m1, u1⟩
    rw [Ok_vl, gd_t b1, Ok_some]
    have mp := (AU_0 h8 K1 M0.2.1).put6 (i := 0) (j := r) (Or.inl rfl) (by omega) 0
    rw [show 6 * 0 + r = r by omega] at mp
    exact ⟨rfl, M0.stroke hV hX.2.1.1 K1 hL e1 m1 u1 (fun c j q => by rw [sI_i, if_neg (by unfold Px at q; omega)]) mp (by unfold undo1; rw [if_neg (show ¬ 2 = 0 by decide), if_neg (show ¬ 2 = 1 by decide)]; exact up_back)⟩
theorem rop_bits {x : Int32} {r : Nat} (hr : r < 8) : (nbit x r → x ||| shl 1 (nI r) = x ^^^ shl 1 (nI r) ∧ (x ||| shl 1 (nI r)) &&& (shl 1 (nI r) ^^^ -1) = x) ∧ (¬ nbit x r → x &&& (shl 1 (nI r) ^^^ -1) = x ^^^ shl 1 (nI r) ∧ (x &&& (shl 1 (nI r) ^^^ -1)) ||| shl 1 (nI r) = x) := by
  have e : (shl 1 (nI r)).toBitVec = BitVec.twoPow 32 r := (by decide : ∀ r, r < 8 → (shl 1 (nI r)).toBitVec = BitVec.twoPow 32 r) r hr
  have e1 : (-1 : Int32).toBitVec = BitVec.allOnes 32 := by decide
  rw [tb_of hr]
  generalize shl 1 (nI r) = b at e
  refine ⟨fun h => ⟨?_, ?_⟩, fun h => ?_⟩
  · refine Int32.toBitVec_inj.mp ?_
    rw [Int32.toBitVec_or, Int32.toBitVec_xor, e]
    refine BitVec.eq_of_getLsbD_eq fun j hj => ?_
    rw [BitVec.getLsbD_or, BitVec.getLsbD_xor, BitVec.getLsbD_twoPow]
    by_cases q : r = j
    · subst q; simp [h]
    · simp [q]
  · refine Int32.toBitVec_inj.mp ?_
    rw [Int32.toBitVec_and, Int32.toBitVec_or, Int32.toBitVec_xor, e, e1]
    refine BitVec.eq_of_getLsbD_eq fun j hj => ?_
    rw [BitVec.getLsbD_and, BitVec.getLsbD_or, BitVec.getLsbD_xor, BitVec.getLsbD_twoPow, BitVec.getLsbD_allOnes]
    by_cases q : r = j
    · subst q; simp [h]
    · simp [q, hj]
  · have h : x.toBitVec.getLsbD r = true := by
      cases z : x.toBitVec.getLsbD r with
      | true => rfl
      | false => exact absurd z h
    refine ⟨?_, ?_⟩
    · refine Int32.toBitVec_inj.mp ?_
      rw [Int32.toBitVec_and, Int32.toBitVec_xor, Int32.toBitVec_xor, e, e1]
      refine BitVec.eq_of_getLsbD_eq fun j hj => ?_
      rw [BitVec.getLsbD_and, BitVec.getLsbD_xor, BitVec.getLsbD_xor, BitVec.getLsbD_twoPow, BitVec.getLsbD_allOnes]
      by_cases q : r = j
      · subst q; simp [h, hj]
      · simp [q, hj]
    · refine Int32.toBitVec_inj.mp ?_
      rw [Int32.toBitVec_or, Int32.toBitVec_and, Int32.toBitVec_xor, e, e1]
      refine BitVec.eq_of_getLsbD_eq fun j hj => ?_
      rw [BitVec.getLsbD_or, BitVec.getLsbD_and, BitVec.getLsbD_xor, BitVec.getLsbD_twoPow, BitVec.getLsbD_allOnes]
      by_cases q : r = j
      · subst q; simp [h, hj]
      · simp [q, hj]
theorem up_up {S : SV} {i j : Nat} {v w : Int32} : up (up S i j v) i j w = up S i j w := by
  funext i' j'
  by_cases q : i' = i ∧ j' = j
  · obtain ⟨rfl, rfl⟩ := q; rw [up_at, up_at]
  · rw [up_ne q, up_ne q, up_ne q]
theorem up_self {S : SV} {i j : Nat} : up S i j (S i j) = S := by
  funext i' j'
  by_cases q : i' = i ∧ j' = j
  · obtain ⟨rfl, rfl⟩ := q; rw [up_at]
  · rw [up_ne q]
theorem sim_rope (a d : Int32) (hd : bl d) : Sim Rel (f_X10_rope 0 a d) (f_X11_rope 181 a d) := by
  refine simX fun μ ν V S X h hV hS hX C M => ?_
  obtain ⟨XI, XT, XR⟩ := X
  have h6 : V.1 0 ≤ 6 := hV.1
  have h8 : V.1 2 ≤ 8 := hV.2.2.1
  have M0 := rm_th hV hX M
  have b0 : bl (0 : Int32) := Or.inl rfl
  have b1 : bl (1 : Int32) := Or.inr rfl
  by_cases ca : hs (V.1 0) a
  rotate_left
  · refine ⟨0, S, (XI, XT, XR), hS, hX, ?_, ?_⟩
    · unfold f_X10_rope
      refine rc_h C ?_
      rw [has0 C.2.2.2.1, bd_some, if_neg ca, if_pos rfl, gd_t b0]; exact rcq C
    · unfold f_X11_rope
      show Ok _ _
      rw [Ok_vl, isRoom_eq M0.1, bd_some, if_neg ca, if_pos rfl, gd_t b0]; exact rmq M0
  obtain ⟨r, hr, rfl⟩ := hs_ex ca (by omega)
  have c5 : μ.1 66 5 = S 5 0 := C.2.2.2.2.1.2.2.2.2.2.1
  have m5 : (sI ν 181 0 0).1 205 0 = S 5 0 := by
    have := M0.2.1.2.2.2.2.2.1
    rw [if_neg (by decide)] at this
    exact this
  generalize hbt : (if nbit (S 5 0) r then (0 : Int32) else 1) = bt
  have hM : (if ((shr (S 5 0) (nI r)) &&& (1 : Int32)) = (1 : Int32) then f_X11_rope_j32 181 (nI r) d 1 (sI ν 181 0 0) else f_X11_rope_j32 181 (nI r) d 0 (sI ν 181 0 0)) = f_X11_rope_j32 181 (nI r) d bt (sI ν 181 0 0) := by
    rw [shr_val (by omega), ← hbt]
    by_cases q : nbit (S 5 0) r
    · rw [if_pos q, if_neg (by decide)]
    · rw [if_neg q, if_pos rfl]
  by_cases e : bt = d
  · refine ⟨0, S, (XI, XT, XR), hS, hX, ?_, ?_⟩
    · unfold f_X10_rope
      refine rc_h C ?_
      simp only [Nat.reduceAdd]
      rw [has0 C.2.2.2.1, bd_some, if_pos ca, if_neg (by decide), isRoped_eq, bd_some, c5, hbt, if_pos e, gd_t b0]; exact rcq C
    · unfold f_X11_rope
      show Ok _ _
      simp only [Nat.reduceAdd]
      rw [Ok_vl, isRoom_eq M0.1, bd_some, if_pos ca, if_neg (by decide), m5, hM]
      unfold f_X11_rope_j32
      rw [if_pos e, gd_t b0]; exact rmq M0
  have hp : SKw V (1, r, if d = 0 then 1 else 0) := Or.inr (Or.inl ⟨rfl, hr, by dsimp only; split; exact b1; exact b0⟩)
  have bits := rop_bits (x := S 5 0) (r := r) (by omega)
  have key : rop (S 5 0) r d = S 5 0 ^^^ shl 1 (nI r) ∧ rop (rop (S 5 0) r d) r (if d = 0 then 1 else 0) = S 5 0 := by
    unfold rop
    by_cases q : nbit (S 5 0) r
    · rw [if_pos q] at hbt
      have d1 : d = 1 := hd.resolve_left (fun z => e (hbt.symm.trans z.symm))
      rw [d1, show (if (1 : Int32) = 0 then (1 : Int32) else 0) = 0 by decide, if_neg (show ¬ (1 : Int32) = 0 by decide), if_pos rfl]
      exact bits.1 q
    · rw [if_neg q] at hbt
      have d0 : d = 0 := hd.resolve_right (fun z => e (hbt.symm.trans z.symm))
      rw [d0, show (if (0 : Int32) = 0 then (1 : Int32) else 0) = 1 by decide, if_pos (show (0 : Int32) = 0 from rfl), if_neg (show ¬ (1 : Int32) = 0 by decide)]
      exact bits.2 q
  refine ⟨1, up S 5 0 (rop (S 5 0) r d), (XI, psh (1, r, if d = 0 then 1 else 0) XT, XR), hS.put (fun z => by omega) (by omega), hX.psh hp, ?_, ?_⟩
  · unfold f_X10_rope
    refine rc_h C ?_
    simp only [Nat.reduceAdd]
    rw [has0 C.2.2.2.1, bd_some, if_pos ca, if_neg (by decide), isRoped_eq, bd_some, c5, hbt, if_neg e]
    have go : ∀ v : Int32, v = (if d = 0 then 1 else 0) → Ok (f_X10_rope_j41 0 (nI r) d 130 1 (nI r) v μ) (fun x μ' => x = 1 ∧ RC μ' V (up S 5 0 (rop (S 5 0) r d)) (XI, psh (1, r, if d = 0 then 1 else 0) XT, XR) h) := by
      rintro v rfl
      unfold f_X10_rope_j41 f_X7_setRoped
      simp only [Nat.reduceAdd]
      rw [Ok_bd]
      refine (add8_spec (p := (1, r, if d = 0 then 1 else 0)) hX.2.1.1 C.2.2.2.2.2.2.2.1.1 C.2.2.2.2.2.2.2.1.2).mono ?_
      rintro - μ1 ⟨K1, e1, c1⟩
      have cs1 : CS μ1 66 V S := C.2.2.2.2.1.of fun k a b => K1.2.1 k (by simp only [sT, List.mem_cons, List.not_mem_nil, or_false]; omega)
      by_cases q : d = 0
      · rw [if_pos q, Ok_bd, Ok_vl, Ok_some, gd_t b1, Ok_some]
        refine ⟨rfl, C.stroke K1 e1 c1 (Kp.rfl'.sI (by simp)) ?_⟩
        have := cs1.put5 (rop (S 5 0) r d)
        unfold rop at this ⊢
        rw [if_pos q] at this ⊢
        rw [cs1.2.2.2.2.2.1]
        exact this
      · rw [if_neg q, Ok_bd, Ok_vl, Ok_some, gd_t b1, Ok_some]
        refine ⟨rfl, C.stroke K1 e1 c1 (Kp.rfl'.sI (by simp)) ?_⟩
        have := cs1.put5 (rop (S 5 0) r d)
        unfold rop at this ⊢
        rw [if_neg q] at this ⊢
        rw [cs1.2.2.2.2.2.1]
        exact this
    by_cases q : d = 0
    · rw [if_pos q]; exact go 1 (by rw [if_pos q])
    · rw [if_neg q]; exact go 0 (by rw [if_neg q])
  · unfold f_X11_rope
    show Ok _ _
    simp only [Nat.reduceAdd]
    rw [Ok_vl, isRoom_eq M0.1, bd_some, if_pos ca, if_neg (by decide), m5, hM]
    unfold f_X11_rope_j32
    simp only [Nat.reduceAdd]
    rw [if_neg e, Ok_bd]
    refine (keepNow_spec h8 hX.2.1.1 M0.2.2.2.2.1.1 M0.2.1 M0.2.2.2.2.1.2).mono ?_
    rintro - ν1 ⟨K1, L1, hL, e1, m1, u1⟩
    have ms := AU_0 h8 K1 M0.2.1
    have x5 : ν1.1 205 0 = S 5 0 := by
      have := ms.2.2.2.2.2.1
      rw [if_neg (by decide)] at this
      exact this
    rw [Ok_vl, gd_t b1, Ok_some, x5, ← key.1]
    exact ⟨rfl, M0.stroke hV hX.2.1.1 K1 hL e1 m1 u1 (fun c j q => by rw [sI_i, if_neg (by unfold Px at q; omega)]) (ms.put5 _) (by unfold undo1; rw [if_neg (show ¬ 1 = 0 by decide), if_pos rfl, up_at, key.2, up_up]; exact up_self)⟩
/-- things stay in rooms -/
def inR (V : HV) (S : SV) : Prop := ∀ t, t < V.1 2 → ∃ r, r < V.1 0 ∧ S 0 t = nI r
theorem inR.put {V : HV} {S : SV} (H : inR V S) {i j : Nat} {v : Int32} (h0 : i = 0 → ∃ r, r < V.1 0 ∧ v = nI r) : inR V (up S i j v) := by
  intro t ht
  by_cases q : 0 = i ∧ t = j
  · unfold up; rw [if_pos q]; exact h0 q.1.symm
  · rw [up_ne q]; exact H t ht
theorem visitS_in {V : HV} {g : Int32} {ts : Nat → Int32} {d : Nat} {S : SV} (H : inR V S) : inR V (visitS V g ts d S) := by
  unfold visitS
  split
  · exact H
  · rename_i r _
    dsimp only
    have H1 : inR V (up (up S 3 r (S 3 r + 1)) 4 d (S 4 d + 1)) := (H.put (fun z => by omega)).put (fun z => by omega)
    split
    · exact H1
    · split
      · split
        · exact H1.put (fun z => by omega)
        · rename_i b hb
          exact (H1.put (fun _ => ⟨b, (fnd_lt hb).1, rfl⟩)).put (fun z => by omega)
      · exact H1
theorem visN_in {V : HV} {g : Int32} {ts : Nat → Int32} {com : Nat → Bool} {S : SV} (H : inR V S) : ∀ n, inR V (visN V g ts com n S)
  | 0 => H
  | n + 1 => by
    unfold visN
    split
    · exact visitS_in (visN_in H n)
    · exact visN_in H n
theorem passS_in {V : HV} {ts : Nat → Int32} {ab al dr : Int32} {q : SV × Nat} (H : inR V q.1) : ∀ n, inR V (passS V ts ab al dr n q).1
  | 0 => H
  | n + 1 => by
    show inR V (dayG V _ ts ab al (passS V ts ab al dr n q).1)
    unfold dayG
    exact (visN_in (passS_in H n) _).put (fun z => by omega)
theorem RC.toP {μ μ' : fMem} {V : HV} {S S' : SV} {h : Nat} {XI : Option SV} {XT XT' : List SK} {XR : (Nat × (Nat → Nat → Int32) × Int32) × (Nat × (Nat → Int32)) × (Int32 × Int32)} (C : RC μ V S (XI, XT, XR) h) (kk : ∀ k, k < 66 ∨ (72 ≤ k ∧ k < 78) ∨ (123 ≤ k ∧ k ≤ 128) → μ'.1 k = μ.1 k) (cC : CC μ' V) (K3 : ∀ k j, k < 66 → μ'.2.2 k j = μ.2.2 k j) (cS : CS μ' 66 V S') (cT : μ'.1 130 0 = nI XT'.length ∧ CTr μ' XT') : RC μ' V S' (XI, XT', XR) h := by
  obtain ⟨h1, h2, h3, h4, h5, h6, h7, h8, h9, h10, h11, h12, h13⟩ := C
  refine ⟨h1, by rw [K3 0 2 (by omega)]; exact h2, by rw [K3 30 3 (by omega)]; exact h3, h4.of fun k a b => kk k (by rcases h1 with rfl | rfl <;> omega), cS, cC, CI.ofs (by rw [kk 0 (by omega)]) (fun k a b => kk k (by omega)) h7, cT, CN.of (fun k a b => kk k (by omega)) h9, ⟨by rw [kk 0 (by omega)]; exact h10.1, fun j hj => by rw [kk 1 (by omega)]; exact h10.2 j hj⟩, ?_, ?_, ?_⟩
  · rw [kk 30 (by omega)]; exact h11
  · rw [kk 30 (by omega)]; exact h12
  · rw [kk 32 (by omega)]; exact h13
theorem goL_spec {ν : fMem} {V : HV} {S : SV} {ts : Nat → Int32} (M : Mrp ν V 0 S ts 0 (-1) (-1)) {m n : Nat} (hm : S 6 0 = nI m) (hn : n ≤ 200) (hmn : m + n ≤ 16000) : Ok (lpn (fun (q : Int32 × fMem) => f_X11_go_L42 181 (nI n) q.1 q.2) fuel ((0 : Int32), ν)) (fun _ q => Mrp q.2 V 0 (passS V ts (-1) 0 0 n (S, 0)).1 ts 0 (-1) (-1) ∧ KX 0 ν q.2) := by
  refine Ok_lp n (fun i (q : Int32 × fMem) => q.1 = nI i ∧ Mrp q.2 V 0 (passS V ts (-1) 0 0 i (S, 0)).1 ts 0 (-1) (-1) ∧ KX 0 ν q.2) (by omega) ⟨rfl, M, Kx.rfl'⟩ ?_
  rintro i ⟨y, ν1⟩ hi ⟨hy, M1, K1⟩
  dsimp only at hy M1 K1 ⊢
  subst hy
  unfold f_X11_go_L42
  rcases Nat.lt_or_ge i n with q | q
  · rw [if_neg (nI_ge q (by omega)), Ok_bd]
    refine (passes_spec M1 (passS_mo V ts (-1) 0 0 (q := (S, 0)) hm i) (by omega)).mono ?_
    rintro - ν2 ⟨S2, M2, K2, a1, a2, a3⟩
    rw [Ok_vl, nI_1, Ok_some]
    have e : S2 = (passS V ts (-1) 0 0 (i + 1) (S, 0)).1 := by
      rw [a1 (by decide), abO_0, alO_0]
      show _ = (dayS V ts (-1) 0 0 (passS V ts (-1) 0 0 i (S, 0))).1
      unfold dayS gOf gM
      rw [if_pos rfl, if_pos rfl]
    rw [e] at M2
    exact Or.inl ⟨rfl, q, rfl, M2, K1.trans K2⟩
  · rw [if_pos (nI_le q (by omega)), Ok_some]
    have : i = n := by omega
    subst this
    exact Or.inr ⟨0, rfl, M1, K1⟩
theorem sim_go (a : Int32) : Sim Rel (f_X10_go 0 a) (f_X11_go 181 a) := by
  refine simX fun μ ν V S X h hV hS hX C M => ?_
  obtain ⟨XI, XT, XR⟩ := X
  have h8 : V.1 2 ≤ 8 := hV.2.2.1
  have M0 := rm_th hV hX M
  obtain ⟨m, hm, em⟩ := hS.2.1
  have c6 : μ.1 66 6 = nI m := C.2.2.2.2.1.2.2.2.2.2.2.1.trans em
  have m6 : (sI ν 181 0 0).1 203 0 = nI m := M0.2.1.2.2.2.2.2.2.trans em
  by_cases a0 : a < 0
  · refine ⟨-1, S, (XI, XT, XR), hS, hX, ?_, ?_⟩
    · unfold f_X10_go; rw [if_pos a0]; exact rcq C
    · unfold f_X11_go
      show Ok _ _
      rw [Ok_vl, if_pos a0]; exact rmq M0
  by_cases a99 : 99 < a
  · refine ⟨-1, S, (XI, XT, XR), hS, hX, ?_, ?_⟩
    · unfold f_X10_go; rw [if_neg a0, if_pos a99]; exact rcq C
    · unfold f_X11_go
      show Ok _ _
      rw [Ok_vl, if_neg a0, if_pos a99]; exact rmq M0
  obtain ⟨n, hn, rfl⟩ := nI_of2 (x := a) (M := 99) (n := 99) (by decide) a0 (Int32.not_lt.mp a99)
  by_cases a9 : nI (m + n) ≤ 9900
  rotate_left
  · refine ⟨-1, S, (XI, XT, XR), hS, hX, ?_, ?_⟩
    · unfold f_X10_go
      simp only [Nat.reduceAdd]
      rw [if_neg a0, if_neg a99, c6, nI_add, if_neg a9]; exact rcq C
    · unfold f_X11_go
      show Ok _ _
      simp only [Nat.reduceAdd]
      rw [Ok_vl, if_neg a0, if_neg a99, m6, nI_add, if_neg a9]; exact rmq M0
  have hmn : m + n ≤ 9900 := (nI_leI (a := m + n) (b := 9900) (by omega) (by omega)).mp a9
  have em2 := passS_mo V (V.2.1 3) (-1) 0 0 (q := (S, 0)) em n
  have hin := passS_in (V := V) (ts := V.2.1 3) (ab := -1) (al := 0) (dr := 0) (q := (S, 0)) hS.1 n
  have ro : ∀ SS, SW V SS → inR V SS → SS 6 0 = nI (m + n) → SR V SS := fun SS w i e => ⟨i, ⟨m + n, hmn, e⟩, w.2.2⟩
  generalize hS2 : (passS V (V.2.1 3) (-1) 0 0 n (S, 0)).1 = S2 at em2 hin
  have key : SW V S2 ∧ RCo (f_X10_go 0 (nI n) μ) V S2 (XI, if n = 0 then XT else [], XR) h (nI (m + n)) := by
    suffices H : Ok (f_X10_go 0 (nI n) μ) (fun r μ' => SW V S2 ∧ r = nI (m + n) ∧ RC μ' V S2 (XI, if n = 0 then XT else [], XR) h) by
      obtain ⟨r, μ', e, w, h1, h2⟩ := H
      exact ⟨w, r, μ', e, h1, h2⟩
    unfold f_X10_go
    simp only [Nat.reduceAdd]
    rw [if_neg a0, if_neg a99, c6, nI_add, if_pos a9]
    refine rc_h C ?_
    rw [Ok_bd]
    refine (C.begin hV hS).mono ?_
    rintro - μ1 ⟨C1, P1, K1, R1⟩
    rw [Ok_bd]
    refine (pass_spec (C1.crp P1) (n := n) (by omega) em (by omega)).mono ?_
    rintro - μ2 ⟨C2, K2⟩
    rw [hS2] at C2 K2
    have kk : ∀ k, k < 66 ∨ (72 ≤ k ∧ k < 84) ∨ (85 ≤ k ∧ k < 120) ∨ 123 ≤ k → μ2.1 k = μ1.1 k := fun k hk => K2.1.2.1 k (by simp only [sV, List.mem_cons, List.not_mem_nil, or_false]; omega)
    have r6 : μ2.1 66 6 = nI (m + n) := C2.2.2.2.1.2.2.2.2.2.2.1.trans em2
    have t1 : μ2.1 130 0 = nI XT.length ∧ CTr μ2 XT := ⟨by rw [kk 130 (by omega)]; exact R1.2.2.2.2.2.2.2.1.1, CTr.of (fun k a b => kk k (by omega)) R1.2.2.2.2.2.2.2.1.2⟩
    by_cases n0 : n = 0
    · subst n0
      rw [if_pos (show nI 0 ≤ 0 by decide), r6, Ok_some]
      exact ⟨C2.2.1, rfl, R1.toP (fun k hk => kk k (by omega)) C2.2.2.2.2.2 (fun k j _ => K2.1.r k j) C2.2.2.2.1 t1⟩
    · unfold f_X8_clear
      rw [if_neg (nI_nle (by omega) (by omega)), Ok_bd, Ok_vl, Ok_some]
      have zz : ∀ k j, ¬ k = 130 → (sI μ2 130 0 0).1 k j = μ2.1 k j := fun k j hk => by rw [sI_i, if_neg (by omega)]
      have zf : ∀ k, ¬ k = 130 → (sI μ2 130 0 0).1 k = μ2.1 k := fun k hk => by funext j; exact zz k j hk
      rw [zz 66 6 (by omega), r6, Ok_some, if_neg n0]
      exact ⟨C2.2.1, rfl, R1.toP (fun k hk => (zf k (by omega)).trans (kk k (by omega))) (C2.2.2.2.2.2.of (zf 122 (by omega)) rfl) (fun k j _ => K2.1.r k j) (C2.2.2.2.1.of fun k a b => zf k (by omega)) ⟨by rw [sI_i, if_pos ⟨rfl, rfl⟩]; rfl, trivial⟩⟩
  refine ⟨nI (m + n), S2, (XI, if n = 0 then XT else [], XR), ro S2 key.1 hin em2, ⟨hX.1, ?_, hX.2.2⟩, key.2, ?_⟩
  · dsimp only
    split
    · exact hX.2.1
    · exact ⟨Nat.zero_le _, fun p hp => absurd hp List.not_mem_nil⟩
  · unfold f_X11_go
    show Ok _ _
    simp only [Nat.reduceAdd]
    rw [Ok_vl, if_neg a0, if_neg a99, m6, nI_add, if_pos a9]
    generalize sI ν 181 0 0 = ν0 at M0 m6 ⊢
    have fin : ∀ νa, RM νa V S (XI, if n = 0 then XT else [], XR) → (∀ SS, (passS V (V.2.1 3) (-1) 0 0 n (S, 0)).1 = SS → ∀ νb, Mrp νb V 0 SS (V.2.1 3) 0 (-1) (-1) → KX 0 νa νb → MUr νb V SS (if n = 0 then XT else [])) → Ok (f_X11_go_j40 181 (nI n) νa) (fun r ν' => r = nI (m + n) ∧ RM ν' V S2 (XI, if n = 0 then XT else [], XR)) := by
      intro νa Ma hu
      unfold f_X11_go_j40
      simp only [Nat.reduceAdd]
      rw [Ok_bd]
      refine (goL_spec (Ma.mrp hV hS) em (by omega) (by omega)).mono ?_
      rintro u ⟨z, νb⟩ ⟨Mb, Kb⟩
      dsimp only at Mb Kb ⊢
      have ub := hu _ rfl νb Mb Kb
      rw [hS2] at Mb ub
      rw [Mb.2.2.2.1.2.2.2.2.2.2, em2, Ok_some]
      refine ⟨rfl, Ma.toS hV (fun c j h1 h2 h3 => ?_) Mb.2.2.2.1 ⟨?_, ub⟩⟩
      · exact Kb.2.1 c j (by rintro (w | w); exact h3 ⟨w.1, Or.inr w.2⟩; exact h1 w)
      · rw [Kb.2.1 181 46 (by unfold AX Px; omega)]; exact Ma.2.2.2.2.1.1
    by_cases n0 : n = 0
    · subst n0
      rw [if_pos (show nI 0 ≤ 0 by decide)]
      refine fin ν0 M0 ?_
      rintro SS rfl νb Mb Kb
      show MUr νb V S XT
      exact MUr.of h8 (fun c y j a b q => Kb.2.1 c j (by unfold AX; unfold Px at q ⊢; omega)) hX.2.1.1 M0.2.2.2.2.1.2
    · rw [if_neg (nI_nle (by omega) (by omega)), Ok_vl]
      refine fin _ ?_ ?_
      · rw [if_neg n0]
        have zz : ∀ c j, ¬ (c = 181 ∧ j = 46) → (sI ν0 181 46 0).1 c j = ν0.1 c j := fun c j hc => by rw [sI_i, if_neg hc]
        exact M0.toS hV (fun c j h1 h2 h3 => zz c j (by omega)) (M0.2.1.of h8 (fun c a b j hj => zz _ _ (by omega)) (fun c a b j hj => zz _ _ (by omega)) (zz _ _ (by omega)) (zz _ _ (by omega))) ⟨by rw [sI_i, if_pos ⟨rfl, rfl⟩]; rfl, trivial⟩
      · intro SS _ νb _ _
        rw [if_neg n0]
        trivial
end Sim8
