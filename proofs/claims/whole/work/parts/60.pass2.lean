theorem cnc {m2 m1 m x x1 x2 : Int32} (a : m1 + x = m + x1) (b : m2 + x1 = m1 + x2) : m2 + x = m + x2 := by
  have e : m2 + x1 + x = m1 + x2 + x := by rw [b]
  have e2 : m2 + x1 + x = m2 + x + x1 := by rw [Int32.add_assoc, Int32.add_comm x1, ← Int32.add_assoc]
  have e3 : m1 + x2 + x = m + x2 + x1 := by rw [Int32.add_assoc, Int32.add_comm x2, ← Int32.add_assoc, a, Int32.add_assoc, Int32.add_comm x1, ← Int32.add_assoc]
  exact (Int32.add_left_inj _).mp (e2.symm.trans (e.trans e3))
theorem visitS_hi (V : HV) (g : Int32) (ts : Nat → Int32) (d : Nat) (S : SV) {i : Nat} (hi : 5 ≤ i) (j : Nat) : visitS V g ts d S i j = S i j := by
  unfold visitS
  cases seatS V g ts S d with
  | none => rfl
  | some r =>
    have h1 : up (up S 3 r (S 3 r + 1)) 4 d (S 4 d + 1) i j = S i j := by rw [up_ne (by omega), up_ne (by omega)]
    dsimp only
    generalize up (up S 3 r (S 3 r + 1)) 4 d (S 4 d + 1) = S1 at h1 ⊢
    cases lstS V g ts S1 d r with
    | none => exact h1
    | some t =>
      dsimp only
      split
      · cases nextS V r with
        | none => dsimp only; rw [up_ne (by omega)]; exact h1
        | some b => dsimp only; rw [up_ne (by omega), up_ne (by omega)]; exact h1
      · exact h1
theorem visN_hi (V : HV) (g : Int32) (ts : Nat → Int32) (com : Nat → Bool) (S : SV) {i : Nat} (hi : 5 ≤ i) (j : Nat) : ∀ d, visN V g ts com d S i j = S i j
  | 0 => rfl
  | d + 1 => by
    unfold visN
    split
    · rw [visitS_hi V g ts d _ hi]; exact visN_hi V g ts com S hi j d
    · exact visN_hi V g ts com S hi j d
theorem passS_mo (V : HV) (ts : Nat → Int32) (ab al dr : Int32) {q : SV × Nat} {m : Nat} (h : q.1 6 0 = nI m) : ∀ n, (passS V ts ab al dr n q).1 6 0 = nI (m + n)
  | 0 => h
  | n + 1 => by
    unfold passS dayS dayG
    dsimp only
    rw [up_at, visN_hi V _ ts _ _ (by omega), passS_mo V ts ab al dr h n, nI_1]
    rfl
theorem passS_ro (V : HV) (ts : Nat → Int32) (ab al dr : Int32) {q : SV × Nat} : ∀ n, (passS V ts ab al dr n q).1 5 0 = q.1 5 0
  | 0 => rfl
  | n + 1 => by
    unfold passS dayS dayG
    dsimp only
    rw [up_ne (by omega), visN_hi V _ ts _ _ (by omega), passS_ro V ts ab al dr n]
section Pass2
variable {μ : fMem} {V : HV} {h s : Nat} {S : SV} {g : Int32} {ts : Nat → Int32} {ab al dr : Int32} {k : Nat}
theorem PK.rfl' : PK s V μ μ S S := ⟨Kp.rfl', rfl, rfl, rfl⟩
theorem PK.trans {μ1 μ2 : fMem} {S1 S2 : SV} (a : PK s V μ μ1 S S1) (b : PK s V μ1 μ2 S1 S2) : PK s V μ μ2 S S2 := ⟨a.1.trans b.1, cnc a.2.1 b.2.1, cnc a.2.2.1 b.2.2.1, b.2.2.2.trans a.2.2.2⟩
theorem VK.pk {μ' : fMem} {S' : SV} (a : VK s V μ μ' S S') : PK s V μ μ' S S' := ⟨a.1.wide (fun _ z => z) (fun _ z => List.mem_cons_of_mem _ z), a.2.2.1, a.2.2.2.1, a.2.2.2.2.2⟩
theorem CS.put6 (H : CS μ s V S) (v : Int32) : CS (sI μ s 6 v) s V (up S 6 0 v) := by
  obtain ⟨h1, h2, h3, h4, h5, h6, h7, h8⟩ := H
  refine ⟨fun k hk => ?_, fun k hk => ?_, fun k hk => ?_, fun k hk => ?_, fun k hk => ?_, ?_, ?_, fun k a b => ?_⟩ <;> rw [sI_i]
  · rw [if_neg (by omega), up_ne (by omega)]; exact h1 k hk
  · rw [if_neg (by omega), up_ne (by omega)]; exact h2 k hk
  · rw [if_neg (by omega), up_ne (by omega)]; exact h3 k hk
  · rw [if_neg (by omega), up_ne (by omega)]; exact h4 k hk
  · rw [if_neg (by omega), up_ne (by omega)]; exact h5 k hk
  · rw [if_neg (by omega), up_ne (by omega)]; exact h6
  · rw [if_pos ⟨rfl, rfl⟩, up_at]
  · rw [if_neg (by omega)]; exact h8 k a b
theorem SW.put6 (H : SW V S) {m : Nat} (hm : m ≤ 16000) : SW V (up S 6 0 (nI m)) := by
  refine ⟨fun t ht => ?_, ?_, fun k a b => ⟨?_, ?_⟩, fun k a b => ?_⟩
  · rw [up_ne (by omega)]; exact H.1 t ht
  · rw [up_at]; exact ⟨m, hm, rfl⟩
  · rw [up_ne (by omega)]; exact (H.2.2.1 k a b).1
  · rw [up_ne (by omega)]; exact (H.2.2.1 k a b).2
  · rw [up_ne (by omega)]; exact H.2.2.2 k a b
theorem CP.of {μ' : fMem} (H : CP μ V h s ts ab al dr k) (e1 : ∀ j, 2 ≤ j → j ≤ 7 → μ'.1 84 j = μ.1 84 j) (e2 : μ'.2.1 84 6 = μ.2.1 84 6) (e3 : μ'.2.2 = μ.2.2) : CP μ' V h s ts ab al dr k := by
  unfold CP at H ⊢
  rw [e1 4 (by omega) (by omega), e1 5 (by omega) (by omega), e1 2 (by omega) (by omega), e1 3 (by omega) (by omega), e1 7 (by omega) (by omega), e2, e3]
  exact H
theorem pass_spec (C : Crp μ V h s S ts ab al dr k) {n m : Nat} (hn : n ≤ 200) (hm : S 6 0 = nI m) (hmn : m + n ≤ 16000) : Ok (f_X0_pass 84 (nI n) μ) (fun _ μ' => Crp μ' V h s (passS V ts ab al dr n (S, k)).1 ts ab al dr (passS V ts ab al dr n (S, k)).2 ∧ PK s V μ μ' S (passS V ts ab al dr n (S, k)).1) := by
  have hh := C.2.2.2.2.1.1
  have hz := C.2.2.2.2.1.2.1
  have hD6 : V.1 3 ≤ 6 := C.1.2.2.2.1
  unfold f_X0_pass
  rw [Ok_bd]
  refine Ok.mono (Q := fun u (q : Int32 × fMem) => Crp q.2 V h s (passS V ts ab al dr n (S, k)).1 ts ab al dr (passS V ts ab al dr n (S, k)).2 ∧ PK s V μ q.2 S (passS V ts ab al dr n (S, k)).1) (Ok_lp n (fun i (q : Int32 × fMem) => q.1 = nI i ∧ Crp q.2 V h s (passS V ts ab al dr i (S, k)).1 ts ab al dr (passS V ts ab al dr i (S, k)).2 ∧ PK s V μ q.2 S (passS V ts ab al dr i (S, k)).1) (by omega) ⟨rfl, C, PK.rfl'⟩ ?_) ?_
  · rintro i ⟨x, μ1⟩ hi ⟨hx, C1, K1⟩
    dsimp only at hx C1 K1 ⊢
    subst hx
    unfold f_X0_pass_L2
    rcases Nat.lt_or_ge i n with q | q
    · rw [if_neg (nI_ge q (by omega)), Ok_bd]
      have un : passS V ts ab al dr (i + 1) (S, k) = dayS V ts ab al dr (passS V ts ab al dr i (S, k)) := rfl
      have hmo : (passS V ts ab al dr i (S, k)).1 6 0 = nI (m + i) := passS_mo V ts ab al dr (q := (S, k)) hm i
      rw [un]
      unfold dayS dayG
      dsimp only
      generalize (passS V ts ab al dr i (S, k)).1 = S1 at *
      generalize (passS V ts ab al dr i (S, k)).2 = k1 at *
      refine (look_spec C1).mono ?_
      rintro - μ2 ⟨C2, P2, K2, m2, t2⟩
      generalize hg : gOf V dr S1 k1 = g at C2 ⊢
      generalize hk2 : (if dr = 0 then k1 else nx k1) = k2 at P2 ⊢
      rw [Ok_bd]
      refine (comers_spec C2 P2.2.2.2.2.2.1 P2.2.2.2.2.2.2.1).mono ?_
      rintro r6 μ3 ⟨rfl, K3⟩
      have C3 := K3.crs C2
      have P3 : CP μ3 V h s ts ab al dr k2 := P2.of (fun j _ _ => K3.1.i (by decide) j) (K3.1.l (by decide) 6) K3.1.1
      have K13 : PK s V μ1 μ3 S1 S1 := by
        refine ⟨(K2.wide (fun k z => ?_) (fun k z => ?_)).trans (K3.1.wide (fun k z => ?_) (fun k z => List.mem_cons_of_mem _ z)), by rw [K3.1.i (by decide), m2], by rw [K3.1.i (by decide), t2], rfl⟩
        · rcases List.mem_singleton.mp z with rfl; exact List.mem_cons_self
        · rcases List.mem_singleton.mp z with rfl; exact List.mem_cons_self
        · rcases List.mem_singleton.mp z with rfl; simp [sV]
      rw [Ok_bd]
      refine Ok.mono (Q := fun u (q : Int32 × fMem) => Crs q.2 V h s (visN V g ts (comB V g ts (S1 6 0) ab al) (V.1 3) S1) g ts ∧ CP q.2 V h s ts ab al dr k2 ∧ PK s V μ1 q.2 S1 (visN V g ts (comB V g ts (S1 6 0) ab al) (V.1 3) S1)) (Ok_lp (V.1 3) (fun d (q : Int32 × fMem) => q.1 = nI d ∧ Crs q.2 V h s (visN V g ts (comB V g ts (S1 6 0) ab al) d S1) g ts ∧ CP q.2 V h s ts ab al dr k2 ∧ PK s V μ1 q.2 S1 (visN V g ts (comB V g ts (S1 6 0) ab al) d S1)) (by omega) ⟨rfl, C3, P3, K13⟩ ?_) ?_
      · rintro d ⟨x, μ4⟩ hd ⟨hx, C4, P4, K4⟩
        dsimp only at hx C4 P4 K4 ⊢
        subst hx
        unfold f_X0_pass_L19
        rw [Ok_vl, P4.2.2.1, gd_t (kd2 hh), told3 C4.2.2.1, bd_some]
        rcases Nat.lt_or_ge d (V.1 3) with qd | qd
        · rw [if_neg (nI_ge qd (by omega))]
          have hb := orN_bit (p := comB V g ts (S1 6 0) ab al) (d := d) (by omega) (V.1 3) (by omega)
          have un2 : ∀ b : Bool, comB V g ts (S1 6 0) ab al d = b → visN V g ts (comB V g ts (S1 6 0) ab al) (d + 1) S1 = if b = true then visitS V g ts d (visN V g ts (comB V g ts (S1 6 0) ab al) d S1) else visN V g ts (comB V g ts (S1 6 0) ab al) d S1 := by
            rintro b rfl; rfl
          cases hc : comB V g ts (S1 6 0) ab al d with
          | false =>
            rw [if_pos (hb.mpr (fun z => by rw [hc] at z; exact absurd z.2 (by decide))), Ok_vl, nI_1, Ok_some]
            rw [un2 false hc]
            exact Or.inl ⟨rfl, qd, rfl, C4, P4, K4⟩
          | true =>
            rw [if_neg (fun z => hb.mp z ⟨qd, hc⟩), Ok_bd]
            refine (visit_spec C4 qd).mono ?_
            rintro - μ5 ⟨C5, K5⟩
            rw [Ok_vl, nI_1, Ok_some, un2 true hc]
            exact Or.inl ⟨rfl, qd, rfl, C5, P4.of (fun j a _ => K5.2.1 j a) (K5.1.l (by decide) 6) K5.1.1, K4.trans K5.pk⟩
        · rw [if_pos (nI_le qd (by omega)), Ok_some]
          have : d = V.1 3 := by omega
          subst this
          exact Or.inr ⟨0, rfl, C4, P4, K4⟩
      · rintro u ⟨x, μ4⟩ ⟨C4, P4, K4⟩
        dsimp only at C4 P4 K4 ⊢
        have e6 : visN V g ts (comB V g ts (S1 6 0) ab al) (V.1 3) S1 6 0 = nI (m + i) := by rw [visN_hi V g ts _ _ (by omega), hmo]
        generalize visN V g ts (comB V g ts (S1 6 0) ab al) (V.1 3) S1 = S4 at C4 K4 e6 ⊢
        rw [Ok_vl, P4.2.2.2.1, gd_t (kd7 hz), C4.2.2.2.1.2.2.2.2.2.2.1, Ok_vl, Ok_vl, nI_1, Ok_some]
        have e : ∀ k, ¬ k = s → (sI μ4 s 6 (S4 6 0 + 1)).1 k = μ4.1 k := fun k hk => by
          funext j'
          rw [sI_i, if_neg (fun q => hk q.1)]
        refine Or.inl ⟨rfl, q, rfl, ⟨C.1, ?_, C4.2.2.1.of fun x a b => e x (by rcases hh with rfl | rfl <;> omega), C4.2.2.2.1.put6 _, P4.of (fun j _ _ => by rw [e 84 (by omega)]) rfl rfl, C4.2.2.2.2.2.of (e 122 (by omega)) rfl⟩, K1.trans (K4.trans ⟨Kp.rfl'.sI (by simp [sV]), ?_, ?_, up_ne (by omega)⟩)⟩
        · rw [e6, nI_1]; exact C4.2.1.put6 (by omega)
        · rw [e 84 (by omega), sumN_upo (by omega)]
        · rw [e 84 (by omega), sumN_upo (by omega)]
    · rw [if_pos (nI_le q (by omega)), Ok_some]
      have : i = n := by omega
      subst this
      exact Or.inr ⟨0, rfl, C1, K1⟩
  · rintro u ⟨x, μ1⟩ ⟨C1, K1⟩
    exact Ok_some.mpr ⟨C1, K1⟩
end Pass2
