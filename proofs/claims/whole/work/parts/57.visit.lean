section Visit
variable {μ : fMem} {V : HV} {h s : Nat} {S : SV} {g : Int32} {ts : Nat → Int32}
theorem leastLiked_spec (C : Crs μ V h s S g ts) {d r : Nat} (hd : d < V.1 3) (hr : r < 6) : Ok (f_X0_leastLiked 84 (nI d) (nI r) μ) (fun x μ' => x = oI (lstS V g ts S d r) ∧ CK μ μ' V) := by
  have hh := C.2.2.2.2.1.1
  have hz := C.2.2.2.2.1.2.1
  have h8 : V.1 2 ≤ 8 := C.1.2.2.1
  unfold f_X0_leastLiked
  rw [Ok_vl, C.2.2.2.2.1.2.2.1, gd_t (kd2 hh), told2 C.2.2.1, bd_some, Ok_bd]
  refine Ok.mono (Q := fun u (q : Int32 × Int32 × Int32 × fMem) => q.1 = oI (lstS V g ts S d r) ∧ CK μ q.2.2.2 V) (Ok_lp (V.1 2) (fun i (q : Int32 × Int32 × Int32 × fMem) => q.2.2.1 = nI i ∧ CK μ q.2.2.2 V ∧ q.1 = oI (bst (fun t => S 0 t = nI r) (fun a b => lkS V g ts S d b r < lkS V g ts S d a r) i) ∧ ∀ a, bst (fun t => S 0 t = nI r) (fun a b => lkS V g ts S d b r < lkS V g ts S d a r) i = some a → q.2.1 = lkS V g ts S d a r) (by omega) ⟨rfl, ⟨Kp.rfl', C.2.2.2.2.2⟩, rfl, fun a q => by cases q⟩ ?_) ?_
  · rintro i ⟨b, l, x, μ1⟩ hi ⟨hx, K1, hb, hl⟩
    dsimp only at hx K1 hb hl ⊢
    subst hx
    have C1 := K1.crs C
    unfold f_X0_leastLiked_L18 f_X0_leastLiked_j64
    rcases Nat.lt_or_ge i (V.1 2) with q | q
    · have un : bst (fun t => S 0 t = nI r) (fun a b => lkS V g ts S d b r < lkS V g ts S d a r) (i + 1) = match bst (fun t => S 0 t = nI r) (fun a b => lkS V g ts S d b r < lkS V g ts S d a r) i with
          | none => if S 0 i = nI r then some i else none
          | some b => if S 0 i = nI r ∧ lkS V g ts S d i r < lkS V g ts S d b r then some i else some b := rfl
      rw [un]
      rw [if_neg (nI_ge q (by omega)), Ok_vl, C1.2.2.2.2.1.2.2.2.1, gd_t (kd7 hz), gd_t (show ixo (nI i) 8 from ixN (by omega) (by omega)), nI_clamp (by omega), C1.2.2.2.1.1 i q]
      by_cases hat : S 0 i = nI r
      · rw [if_pos hat, Ok_bd]
        refine (likes_spec C1 hd q hr).mono ?_
        rintro y μ2 ⟨rfl, K2⟩
        have K := K1.trans K2
        have hlk : lkv V d i (ts d) g (S 6 0) (S 3 r) = lkS V g ts S d i r := rfl
        rw [hlk]
        cases e : bst (fun t => S 0 t = nI r) (fun a b => lkS V g ts S d b r < lkS V g ts S d a r) i with
        | none =>
          rw [e] at hb
          rw [show b = -1 from hb, if_pos rfl, Ok_vl, nI_1, Ok_some]
          refine Or.inl ⟨rfl, q, rfl, K, ?_, ?_⟩
          · dsimp only; rw [if_pos hat]; rfl
          · dsimp only; rw [if_pos hat]; intro a ha; cases ha; rfl
        | some a =>
          rw [e] at hb
          have hl := hl a e
          obtain ⟨ha, -⟩ := bst_ok e
          have hb : b = nI a := hb
          subst hb hl
          rw [if_neg (nI_nm1 (n := a) (by omega))]
          by_cases hle : lkS V g ts S d a r ≤ lkS V g ts S d i r
          · rw [if_pos hle, Ok_vl, nI_1, Ok_some]
            refine Or.inl ⟨rfl, q, rfl, K, ?_, ?_⟩
            · dsimp only; rw [if_neg (fun z => Int32.not_lt.mpr hle z.2)]; rfl
            · dsimp only; rw [if_neg (fun z => Int32.not_lt.mpr hle z.2)]; intro c hc; cases hc; rfl
          · rw [if_neg hle, Ok_vl, nI_1, Ok_some]
            refine Or.inl ⟨rfl, q, rfl, K, ?_, ?_⟩
            · dsimp only; rw [if_pos ⟨hat, Int32.not_le.mp hle⟩]; rfl
            · dsimp only; rw [if_pos ⟨hat, Int32.not_le.mp hle⟩]; intro c hc; cases hc; rfl
      · rw [if_neg hat, Ok_vl, nI_1, Ok_some]
        have e2 : (match bst (fun t => S 0 t = nI r) (fun a b => lkS V g ts S d b r < lkS V g ts S d a r) i with
          | none => if S 0 i = nI r then some i else none
          | some b => if S 0 i = nI r ∧ lkS V g ts S d i r < lkS V g ts S d b r then some i else some b) = bst (fun t => S 0 t = nI r) (fun a b => lkS V g ts S d b r < lkS V g ts S d a r) i := by
          cases bst (fun t => S 0 t = nI r) (fun a b => lkS V g ts S d b r < lkS V g ts S d a r) i with
          | none => dsimp only; rw [if_neg hat]
          | some a => dsimp only; rw [if_neg (fun z => hat z.1)]
        rw [e2]
        exact Or.inl ⟨rfl, q, rfl, K1, hb, hl⟩
    · rw [if_pos (nI_le q (by omega)), Ok_some]
      have : i = V.1 2 := by omega
      subst this
      exact Or.inr ⟨0, rfl, hb, K1⟩
  · rintro u ⟨b, l, x, μ1⟩ ⟨hb, K1⟩
    exact Ok_some.mpr ⟨hb, K1⟩
theorem leads_eq (H : CH μ h V) {a b : Nat} (ha : a < 6) (hb : b < 6) : f_X2_leads h (nI a) (nI b) μ = some ((if V.2.2.1 a b = true then 1 else 0), μ) := by
  unfold f_X2_leads
  simp only [if_neg (nI_pos (show a < 2 ^ 31 by omega)), if_neg (show ¬ 6 ≤ nI a from nI_ge (b := 6) (by omega) (by omega)), gd_t (show ixo (nI a) 6 from ixN (by omega) (by omega)), nI_clamp (show a < 2 ^ 31 by omega), gd_t (Or.inl rfl : bl 0), gd_t (Or.inr rfl : bl 1)]
  have hd := H.2.2.2.2.2.2.1 a b ha hb
  by_cases q : nbit (μ.1 (h + 7) a) b
  · rw [if_pos q, if_neg (by rw [hd.mp q]; decide)]
  · rw [if_neg q, if_pos (by cases e : V.2.2.1 a b with
      | true => rfl
      | false => exact absurd (hd.mpr e) q)]
theorem firstBehind_spec (H : CH μ h V) (hV : HW V) {r : Nat} (hr : r < 6) : f_X2_firstBehind h (nI r) μ = some (oI (nextS V r), μ) := by
  have hR6 : V.1 0 ≤ 6 := hV.1
  have key : Ok (f_X2_firstBehind h (nI r) μ) (fun x μ' => x = oI (nextS V r) ∧ μ' = μ) := by
    unfold f_X2_firstBehind
    rw [Ok_bd]
    refine Ok.mono (Q := fun u (q : Int32 × fMem) => q.2 = μ ∧ ((u = 0 ∧ nextS V r = none) ∨ (u = 1 ∧ ∃ b, nextS V r = some b ∧ q.1 = nI b))) (Ok_lp (V.1 0) (fun i (q : Int32 × fMem) => q.1 = nI i ∧ q.2 = μ ∧ fnd (fun b => V.2.2.1 r b) i = none) (by omega) ⟨rfl, rfl, rfl⟩ ?_) ?_
    · rintro i ⟨x, μ1⟩ hi ⟨hx, hm, hn⟩
      dsimp only at hx hm hn ⊢
      subst hx hm
      unfold f_X2_firstBehind_L2
      rw [told0 H, bd_some]
      rcases Nat.lt_or_ge i (V.1 0) with q | q
      · rw [if_neg (nI_ge q (by omega)), leads_eq H hr (by omega), bd_some]
        by_cases hl : V.2.2.1 r i = true
        · rw [if_pos hl, if_neg (by decide), Ok_some]
          exact Or.inr ⟨1, rfl, rfl, Or.inr ⟨rfl, i, fnd_le (a := 0) hn hl _ q, rfl⟩⟩
        · rw [if_neg hl, if_pos rfl, Ok_vl, nI_1, Ok_some]
          refine Or.inl ⟨rfl, q, rfl, rfl, ?_⟩
          unfold fnd
          rw [hn]
          simp only [hl, if_false]
          rfl
      · rw [if_pos (nI_le q (by omega)), Ok_some]
        have : i = V.1 0 := by omega
        subst this
        exact Or.inr ⟨0, rfl, rfl, Or.inl ⟨rfl, hn⟩⟩
    · rintro u ⟨x, μ1⟩ ⟨hm, hq⟩
      dsimp only at hm hq ⊢
      subst hm
      rcases hq with ⟨rfl, hn⟩ | ⟨rfl, b, hb, rfl⟩
      · rw [if_pos rfl, Ok_some, hn]; exact ⟨rfl, rfl⟩
      · rw [if_neg (by decide), Ok_some, hb]; exact ⟨rfl, rfl⟩
  obtain ⟨a, b, e, rfl, rfl⟩ := key
  exact e
theorem CS.put (H : CS μ s V S) {i j : Nat} (hi : i ≤ 4) (hj : i = 0 → j < V.1 2) (v : Int32) : CS (sI μ (s + 1 + i) j v) s V (up S i j v) := by
  obtain ⟨h1, h2, h3, h4, h5, h6, h7, h8⟩ := H
  unfold up
  refine ⟨fun k hk => ?_, fun k hk => ?_, fun k hk => ?_, fun k hk => ?_, fun k hk => ?_, ?_, ?_, fun k a b => ?_⟩ <;> rw [sI_i] <;> try dsimp only
  · by_cases q : 0 = i ∧ k = j
    · rw [if_pos q, if_pos ⟨by omega, q.2⟩]
    · rw [if_neg q, if_neg (by omega)]; exact h1 k hk
  · by_cases q : 1 = i ∧ k = j
    · rw [if_pos q, if_pos ⟨by omega, q.2⟩]
    · rw [if_neg q, if_neg (by omega)]; exact h2 k hk
  · by_cases q : 2 = i ∧ k = j
    · rw [if_pos q, if_pos ⟨by omega, q.2⟩]
    · rw [if_neg q, if_neg (by omega)]; exact h3 k hk
  · by_cases q : 3 = i ∧ k = j
    · rw [if_pos q, if_pos ⟨by omega, q.2⟩]
    · rw [if_neg q, if_neg (by omega)]; exact h4 k hk
  · by_cases q : 4 = i ∧ k = j
    · rw [if_pos q, if_pos ⟨by omega, q.2⟩]
    · rw [if_neg q, if_neg (by omega)]; exact h5 k hk
  · rw [if_neg (by omega), if_neg (by omega)]; exact h6
  · rw [if_neg (by omega), if_neg (by omega)]; exact h7
  · rw [if_neg (by omega)]; exact h8 k a b
theorem CO.of2 {μ' : fMem} {S' : SV} (H : CO μ V h s S g ts) (e1 : ∀ j, 2 ≤ j → μ'.1 84 j = μ.1 84 j) (e2 : μ'.2.1 84 = μ.2.1 84) (e3 : μ'.2.2 = μ.2.2) (e4 : S' 6 0 = S 6 0) : CO μ' V h s S' g ts := by
  unfold CO at H ⊢
  rw [e1 10 (by omega), e1 4 (by omega), e1 5 (by omega), e1 16 (by omega), e2, e3, e4]
  exact H
abbrev sV (s : Nat) : List Nat := [84, s, s + 1, s + 2, s + 3, s + 4, s + 5, 120, 122]
theorem sA_sV : ∀ k, k ∈ sA → k ∈ sV s := by
  intro k hk
  simp only [sA, List.mem_cons, List.not_mem_nil, or_false] at hk
  rcases hk with rfl | rfl <;> simp [sV]
/-- what a visit changes, and what not -/
def VK (s : Nat) (V : HV) (μ μ' : fMem) (S S' : SV) : Prop := Kp (sV s) sB μ μ' ∧ (∀ j, 2 ≤ j → μ'.1 84 j = μ.1 84 j) ∧ μ'.1 84 0 + sumN (V.1 2) (S 1) = μ.1 84 0 + sumN (V.1 2) (S' 1) ∧ μ'.1 84 1 + sumN (V.1 2) (S 2) = μ.1 84 1 + sumN (V.1 2) (S' 2) ∧ S' 6 0 = S 6 0 ∧ S' 5 0 = S 5 0
theorem sumN_up {S : SV} {i t : Nat} : ∀ {n : Nat}, t < n → sumN n (up S i t (S i t + 1) i) = sumN n (S i) + 1
  | 0, h => by omega
  | n + 1, h => by
    unfold sumN
    by_cases q : t = n
    · subst q
      rw [up_at, sumN_congr (g := S i) (fun k hk => up_ne (by omega)), Int32.add_assoc]
    · rw [sumN_up (by omega), up_ne (by omega), Int32.add_assoc, Int32.add_assoc, Int32.add_comm (1 : Int32)]
theorem sumN_upo {S : SV} {i i' t : Nat} {v : Int32} {n : Nat} (h : i' ≠ i) : sumN n (up S i t v i') = sumN n (S i') := sumN_congr fun k _ => up_ne (by omega)
theorem Crs.put (C : Crs μ V h s S g ts) {i j : Nat} (hi : i ≤ 4) (hj : i = 0 → j < V.1 2) {v : Int32} (hw : SW V (up S i j v)) : Crs (sI μ (s + 1 + i) j v) V h s (up S i j v) g ts := by
  obtain ⟨h1, h2, h3, h4, h5, h6⟩ := C
  have hz := h5.2.1
  have e : ∀ k, ¬ k = s + 1 + i → (sI μ (s + 1 + i) j v).1 k = μ.1 k := fun k hk => by
    funext j'
    rw [sI_i, if_neg (fun q => hk q.1)]
  refine ⟨h1, hw, h3.of fun k a b => e k ?_, h4.put hi hj v, h5.of2 (fun j' _ => by rw [e 84 (by omega)]) rfl rfl (up_ne (by omega)), h6.of (e 122 (by omega)) rfl⟩
  rcases h5.1 with rfl | rfl <;> omega
theorem SW.put1 (H : SW V S) {i j : Nat} {v : Int32} (h0 : ¬ i = 0) (h6 : ¬ i = 6) (h1 : i = 1 → j < V.1 2) (h2 : i = 2 → j < V.1 2) (h4 : i = 4 → j < V.1 3) : SW V (up S i j v) := by
  refine ⟨fun t ht => ?_, ?_, fun k a b => ⟨?_, ?_⟩, fun k a b => ?_⟩
  · rw [up_ne (by omega)]; exact H.1 t ht
  · rw [up_ne (by omega)]; exact H.2.1
  · rw [up_ne (by omega)]; exact (H.2.2.1 k a b).1
  · rw [up_ne (by omega)]; exact (H.2.2.1 k a b).2
  · rw [up_ne (by omega)]; exact H.2.2.2 k a b
theorem SW.put0 (H : SW V S) {j r : Nat} (hr : r < V.1 0) : SW V (up S 0 j (nI r)) := by
  refine ⟨fun t ht => ?_, ?_, fun k a b => ⟨?_, ?_⟩, fun k a b => ?_⟩
  · by_cases q : t = j
    · subst q; rw [up_at]; exact Or.inr ⟨r, hr, rfl⟩
    · rw [up_ne (by omega)]; exact H.1 t ht
  · rw [up_ne (by omega)]; exact H.2.1
  · rw [up_ne (by omega)]; exact (H.2.2.1 k a b).1
  · rw [up_ne (by omega)]; exact (H.2.2.1 k a b).2
  · rw [up_ne (by omega)]; exact H.2.2.2 k a b
theorem VK.ofQ {μ' : fMem} (K : CQ μ μ' V) : VK s V μ μ' S S := ⟨K.1.wide sA_sV (fun _ z => z), fun j _ => K.1.i (by decide) j, by rw [K.1.i (by decide)], by rw [K.1.i (by decide)], rfl, rfl⟩
theorem VK.trans {μ1 μ2 : fMem} {S1 S2 : SV} (a : VK s V μ μ1 S S1) (b : VK s V μ1 μ2 S1 S2) : VK s V μ μ2 S S2 := by
  obtain ⟨a1, a2, a3, a4, a5, a6⟩ := a
  obtain ⟨b1, b2, b3, b4, b5, b6⟩ := b
  refine ⟨a1.trans b1, fun j hj => (b2 j hj).trans (a2 j hj), ?_, ?_, b5.trans a5, b6.trans a6⟩
  · generalize μ2.1 84 0 = m2 at *
    generalize μ1.1 84 0 = m1 at *
    generalize μ.1 84 0 = m at *
    generalize sumN (V.1 2) (S 1) = x at *
    generalize sumN (V.1 2) (S1 1) = x1 at *
    generalize sumN (V.1 2) (S2 1) = x2 at *
    have e : m2 + x1 + x = m1 + x2 + x := by rw [b3]
    have e2 : m2 + x1 + x = m2 + x + x1 := by rw [Int32.add_assoc, Int32.add_comm x1, ← Int32.add_assoc]
    have e3 : m1 + x2 + x = m + x2 + x1 := by rw [Int32.add_assoc, Int32.add_comm x2, ← Int32.add_assoc, a3, Int32.add_assoc, Int32.add_comm x1, ← Int32.add_assoc]
    exact (Int32.add_left_inj _).mp (e2.symm.trans (e.trans e3))
  · generalize μ2.1 84 1 = m2 at *
    generalize μ1.1 84 1 = m1 at *
    generalize μ.1 84 1 = m at *
    generalize sumN (V.1 2) (S 2) = x at *
    generalize sumN (V.1 2) (S1 2) = x1 at *
    generalize sumN (V.1 2) (S2 2) = x2 at *
    have e : m2 + x1 + x = m1 + x2 + x := by rw [b4]
    have e2 : m2 + x1 + x = m2 + x + x1 := by rw [Int32.add_assoc, Int32.add_comm x1, ← Int32.add_assoc]
    have e3 : m1 + x2 + x = m + x2 + x1 := by rw [Int32.add_assoc, Int32.add_comm x2, ← Int32.add_assoc, a4, Int32.add_assoc, Int32.add_comm x1, ← Int32.add_assoc]
    exact (Int32.add_left_inj _).mp (e2.symm.trans (e.trans e3))
/-- a row of the stand that counts nothing moved -/
theorem VK.put (hz : s = 66 ∨ s = 78) {i j : Nat} {v : Int32} (hi : i ≤ 4) (h1 : ¬ i = 1) (h2 : ¬ i = 2) : VK s V μ (sI μ (s + 1 + i) j v) S (up S i j v) := by
  refine ⟨Kp.rfl'.sI ?_, fun j' _ => ?_, ?_, ?_, up_ne (by omega), up_ne (by omega)⟩
  · simp only [sV, List.mem_cons]; omega
  · rw [sI_i, if_neg (by omega)]
  · rw [sI_i, if_neg (by omega), sumN_upo (by omega)]
  · rw [sI_i, if_neg (by omega), sumN_upo (by omega)]
theorem CO.mv {v : Int32} {i : Nat} (hi : i < 2) (H : CO μ V h s S g ts) : CO (sI μ 84 i v) V h s S g ts := H.of2 (fun j hj => by rw [sI_i, if_neg (by omega)]) rfl rfl rfl
theorem Crs.mv {v : Int32} {i : Nat} (hi : i < 2) (C : Crs μ V h s S g ts) : Crs (sI μ 84 i v) V h s S g ts := by
  obtain ⟨h1, h2, h3, h4, h5, h6⟩ := C
  have e : ∀ k, ¬ k = 84 → (sI μ 84 i v).1 k = μ.1 k := fun k hk => by
    funext j'
    rw [sI_i, if_neg (fun q => hk q.1)]
  refine ⟨h1, h2, h3.of fun k a b => e k ?_, h4.of fun k a b => e k ?_, h5.mv hi, h6.of (e 122 (by decide)) rfl⟩
  · rcases h5.1 with rfl | rfl <;> omega
  · rcases h5.2.1 with rfl | rfl <;> omega
theorem visit_spec (C : Crs μ V h s S g ts) {d : Nat} (hd : d < V.1 3) : Ok (f_X0_visit 84 (nI d) μ) (fun _ μ' => Crs μ' V h s (visitS V g ts d S) g ts ∧ VK s V μ μ' S (visitS V g ts d S)) := by
  have hh := C.2.2.2.2.1.1
  have hz := C.2.2.2.2.1.2.1
  have h8 : V.1 2 ≤ 8 := C.1.2.2.1
  have hR6 : V.1 0 ≤ 6 := C.1.1
  have hD6 : V.1 3 ≤ 6 := C.1.2.2.2.1
  unfold f_X0_visit
  rw [Ok_bd]
  refine (seat_spec C hd).mono ?_
  rintro x μ1 ⟨hx, K1⟩
  have C1 := K1.crs C
  unfold visitS
  cases e : seatS V g ts S d with
  | none =>
    rw [e] at hx
    have hx : x = -1 := hx
    subst hx
    rw [if_pos (by decide), Ok_some]
    exact ⟨C1, VK.ofQ K1⟩
  | some r =>
    obtain ⟨hr, -⟩ := bst_ok e
    rw [e] at hx
    have hx : x = nI r := hx
    subst hx
    dsimp only
    have i6 : ixo (nI r) 6 := ixN (by omega) (by omega)
    have d6 : ixo (nI d) 6 := ixN (by omega) (by omega)
    rw [if_neg (nI_pos (by omega)), if_pos (show nI r < 6 from nI_lt (b := 6) (by omega) (by omega)), Ok_vl, C1.2.2.2.2.1.2.2.2.1, gd_t (kd7 hz)]
    simp only [gd_t i6, nI_clamp (show r < 2 ^ 31 by omega), C1.2.2.2.1.2.2.2.1 r (by omega)]
    rw [Ok_vl]
    have C2 : Crs (sI μ1 (s + 4) r (S 3 r + 1)) V h s (up S 3 r (S 3 r + 1)) g ts := C1.put (i := 3) (by omega) (by omega) (C.2.1.put1 (by omega) (by omega) (by omega) (by omega) (by omega))
    have K2 : VK s V μ1 (sI μ1 (s + 4) r (S 3 r + 1)) S (up S 3 r (S 3 r + 1)) := VK.put hz (i := 3) (by omega) (by omega) (by omega)
    generalize sI μ1 (s + 4) r (S 3 r + 1) = μ2 at C2 K2 ⊢
    rw [Ok_vl, C2.2.2.2.2.1.2.2.2.1, gd_t (kd7 hz)]
    simp only [gd_t d6, nI_clamp (show d < 2 ^ 31 by omega), C2.2.2.2.1.2.2.2.2.1 d (by omega)]
    rw [up_ne (show ¬ (4 = 3 ∧ d = r) by omega), Ok_vl]
    have C3 : Crs (sI μ2 (s + 5) d (S 4 d + 1)) V h s (up (up S 3 r (S 3 r + 1)) 4 d (S 4 d + 1)) g ts := C2.put (i := 4) (by omega) (by omega) (C2.2.1.put1 (by omega) (by omega) (by omega) (by omega) (by omega))
    have K3 : VK s V μ2 (sI μ2 (s + 5) d (S 4 d + 1)) (up S 3 r (S 3 r + 1)) (up (up S 3 r (S 3 r + 1)) 4 d (S 4 d + 1)) := VK.put hz (i := 4) (by omega) (by omega) (by omega)
    generalize sI μ2 (s + 5) d (S 4 d + 1) = μ3 at C3 K3 ⊢
    have K13 := ((VK.ofQ (s := s) (S := S) K1).trans K2).trans K3
    generalize up (up S 3 r (S 3 r + 1)) 4 d (S 4 d + 1) = S1 at C3 K3 K13 ⊢
    rw [Ok_bd]
    refine (leastLiked_spec C3 hd (by omega)).mono ?_
    rintro x μ4 ⟨hx, K4⟩
    have C4 := K4.crs C3
    have K14 := K13.trans (VK.ofQ (S := S1) K4.q)
    cases e2 : lstS V g ts S1 d r with
    | none =>
      rw [e2] at hx
      have hx : x = -1 := hx
      subst hx
      rw [if_pos rfl, Ok_some]
      exact ⟨C4, K14⟩
    | some t =>
      obtain ⟨ht, hat⟩ := bst_ok e2
      rw [e2] at hx
      have hx : x = nI t := hx
      subst hx
      dsimp only
      rw [if_neg (nI_nm1 (n := t) (by omega)), Ok_bd]
      refine (likes_spec C4 hd ht (by omega)).mono ?_
      rintro x μ5 ⟨rfl, K5⟩
      have C5 := K5.crs C4
      rw [Ok_bd]
      refine (bears_spec C5 hd ht (by omega)).mono ?_
      rintro x μ6 ⟨rfl, K6⟩
      have C6 := K6.crs C5
      have K16 := (K14.trans (VK.ofQ (S := S1) K5.q)).trans (VK.ofQ (S := S1) K6.q)
      have t8 : ixo (nI t) 8 := ixN (by omega) (by omega)
      by_cases hlt : lkv V d t (ts d) g (S1 6 0) (S1 3 r) < brv V d t (ts d) g (S1 6 0) (S1 3 r)
      · rw [if_pos hlt, if_pos (show lkS V g ts S1 d t r < _ from hlt), Ok_vl, C6.2.2.2.2.1.2.2.1, gd_t (kd2 hh), firstBehind_spec C6.2.2.1 C.1 (by omega), bd_some]
        generalize hx : oI (nextS V r) = x
        cases e3 : nextS V r with
        | none =>
          rw [e3] at hx
          have hx : x = -1 := hx.symm
          subst hx
          dsimp only
          rw [if_pos rfl, Ok_vl, C6.2.2.2.2.1.2.2.2.1, gd_t (kd7 hz)]
          simp only [gd_t t8, nI_clamp (show t < 2 ^ 31 by omega), C6.2.2.2.1.2.2.1 t (by omega)]
          rw [Ok_vl, Ok_vl, Ok_some]
          have C7 : Crs (sI μ6 (s + 3) t (S1 2 t + 1)) V h s (up S1 2 t (S1 2 t + 1)) g ts := C6.put (i := 2) (by omega) (by omega) (C3.2.1.put1 (by omega) (by omega) (by omega) (by omega) (by omega))
          refine ⟨C7.mv (by omega), K16.trans ⟨(Kp.rfl'.sI (by simp [sV])).sI (by simp [sV]), fun j hj => ?_, ?_, ?_, up_ne (by omega), up_ne (by omega)⟩⟩
          · rw [sI_i, if_neg (by omega), sI_i, if_neg (by omega)]
          · rw [sI_i, if_neg (by omega), sI_i, if_neg (by omega), sumN_upo (by omega)]
          · rw [sI_i, if_pos ⟨rfl, rfl⟩, sI_i, if_neg (by omega), sumN_up ht, Int32.add_assoc, Int32.add_comm 1]
        | some b =>
          obtain ⟨hb, -⟩ := fnd_lt e3
          rw [e3] at hx
          have hx : x = nI b := hx.symm
          subst hx
          dsimp only
          rw [if_neg (nI_nm1 (n := b) (by omega)), Ok_vl, C6.2.2.2.2.1.2.2.2.1, gd_t (kd7 hz)]
          simp only [gd_t t8, nI_clamp (show t < 2 ^ 31 by omega)]
          rw [Ok_vl]
          have C7 : Crs (sI μ6 (s + 1) t (nI b)) V h s (up S1 0 t (nI b)) g ts := C6.put (i := 0) (by omega) (fun _ => ht) (C3.2.1.put0 hb)
          have K7 : VK s V μ6 (sI μ6 (s + 1) t (nI b)) S1 (up S1 0 t (nI b)) := VK.put hz (i := 0) (by omega) (by omega) (by omega)
          generalize sI μ6 (s + 1) t (nI b) = μ7 at C7 K7 ⊢
          rw [Ok_vl, C7.2.2.2.2.1.2.2.2.1, gd_t (kd7 hz), C7.2.2.2.1.2.1 t (by omega), up_ne (show ¬ (1 = 0 ∧ t = t) by omega), Ok_vl, Ok_vl, Ok_some]
          have C8 : Crs (sI μ7 (s + 2) t (S1 1 t + 1)) V h s (up (up S1 0 t (nI b)) 1 t (S1 1 t + 1)) g ts := C7.put (i := 1) (by omega) (by omega) (C7.2.1.put1 (by omega) (by omega) (by omega) (by omega) (by omega))
          refine ⟨C8.mv (by omega), (K16.trans K7).trans ⟨(Kp.rfl'.sI (by simp [sV])).sI (by simp [sV]), fun j hj => ?_, ?_, ?_, up_ne (by omega), up_ne (by omega)⟩⟩
          · rw [sI_i, if_neg (by omega), sI_i, if_neg (by omega)]
          · have e4 : S1 1 t = up S1 0 t (nI b) 1 t := (up_ne (by omega)).symm
            rw [sI_i, if_pos ⟨rfl, rfl⟩, sI_i, if_neg (by omega), e4, sumN_up ht, Int32.add_assoc, Int32.add_comm 1]
          · rw [sI_i, if_neg (by omega), sI_i, if_neg (by omega), sumN_upo (by omega), sumN_upo (by omega), sumN_upo (by omega)]
      · rw [if_neg hlt, if_neg (show ¬ lkS V g ts S1 d t r < _ from hlt), Ok_some]
        exact ⟨C6, K16⟩
end Visit
