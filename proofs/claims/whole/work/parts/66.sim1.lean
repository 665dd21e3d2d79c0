/-! calls that ask -/
section Sim1
theorem qc_some {α : Type} {μ : fMem} {V : HV} {a : α} (c : CC μ V) : QC (some (a, μ)) μ V a := Ok_some.mpr ⟨rfl, KE.rfl', c⟩
theorem qm_th {α : Type} {ν : fMem} {V : HV} {S : SV} {X : RX} {a : α} {k : fMem → Option (α × fMem)} (hV : HW V) (hX : XW V X) (M : RM ν V S X) (H : ∀ ν1, KR ν ν1 → RM ν1 V S X → QM (k ν1) ν a) : QM (vl (sI ν 181 0 0) k) ν a := H _ (KR.thrown 0) (M.kr hV hX (KR.thrown 0))
theorem qm_some {α : Type} {ν ν' : fMem} {a : α} (K : KR ν ν') : QM (some (a, ν')) ν a := Ok_some.mpr ⟨rfl, K⟩
theorem qc_h {α : Type} {μ μ0 : fMem} {V : HV} {S : SV} {X : RX} {h : Nat} {a : α} {k : Nat → Option (α × fMem)} (C : RC μ V S X h) (H : QC (k h) μ0 V a) : QC (vl (μ.2.2 0 2) fun x => gd (kd x = (4, 2)) (k x)) μ0 V a := by
  show Ok (gd (kd (μ.2.2 0 2) = (4, 2)) (k (μ.2.2 0 2))) _
  rw [C.2.1, gd_t C.kd]
  exact H
theorem sim_fault (a : Int32) : Sim Rel (f_X10_fault 0 a) (f_X11_fault 181 a) := by
  refine simQ fun μ ν V S X h hV hS hX C M => ⟨if a = 0 then X.2.2.2.2.1 else if a = 1 then X.2.2.2.2.2 else -1, ?_, ?_⟩
  · obtain ⟨-, -, -, -, -, c6, -, -, -, -, c11, c12, -⟩ := id C
    unfold f_X10_fault
    simp only [Nat.reduceAdd, c11, c12]
    by_cases h0 : a = 0
    · rw [if_pos h0, if_pos h0]; exact qc_some c6
    · rw [if_neg h0, if_neg h0]
      by_cases h1 : a = 1
      · rw [if_pos h1, if_pos h1]; exact qc_some c6
      · rw [if_neg h1, if_neg h1]; exact qc_some c6
  · unfold f_X11_fault
    refine qm_th hV hX M fun ν1 K M => ?_
    obtain ⟨-, -, -, -, -, -, -, m8, m9⟩ := id M
    rw [m8, m9]
    by_cases h0 : a = 0
    · rw [if_pos h0, if_pos h0]; exact qm_some K
    · rw [if_neg h0, if_neg h0]
      by_cases h1 : a = 1
      · rw [if_pos h1, if_pos h1]; exact qm_some K
      · rw [if_neg h1, if_neg h1]; exact qm_some K
theorem find_eq {μ : fMem} {h : Nat} {V : HV} (H : CH μ h V) {w : Nat} (hw : w < 4) (h8 : V.1 w ≤ 8) (nm : Int32) : f_X2_find h (nI w) nm μ = some (oI (fnd (fun j => decide (V.2.1 (10 + w) j = nm)) (V.1 w)), μ) := by
  have key : Ok (f_X2_find h (nI w) nm μ) (fun z μ' => z = oI (fnd (fun j => decide (V.2.1 (10 + w) j = nm)) (V.1 w)) ∧ μ' = μ) := by
    unfold f_X2_find
    rw [if_neg (nI_pos (by omega)), if_pos (show nI w < 4 from nI_lt (b := 4) hw (by omega)), Ok_bd]
    refine Ok.mono (Q := fun u (q : Int32 × fMem) => q.2 = μ ∧ ((u = 0 ∧ fnd (fun j => decide (V.2.1 (10 + w) j = nm)) (V.1 w) = none) ∨ (¬ u = 0 ∧ ∃ b, fnd (fun j => decide (V.2.1 (10 + w) j = nm)) (V.1 w) = some b ∧ q.1 = nI b))) (Ok_lp (V.1 w) (fun i (q : Int32 × fMem) => q.1 = nI i ∧ q.2 = μ ∧ fnd (fun j => decide (V.2.1 (10 + w) j = nm)) i = none) (by omega) ⟨rfl, rfl, rfl⟩ ?_) ?_
    · rintro i ⟨z, μ1⟩ hi ⟨hz, hm, hn⟩
      dsimp only at hz hm hn ⊢
      subst hz hm
      unfold f_X2_find_L17
      rw [told_spec H (by omega), bd_some]
      rcases Nat.lt_or_ge i (V.1 w) with q | q
      · rw [if_neg (nI_ge q (by omega)), gd_t (ixN hw (by omega)), if_neg (show ¬ 8 ≤ nI i from nI_ge (b := 8) (by omega) (by omega)), gd_t (ixN hw (by omega)), gd_t (ixN (by omega) (by omega)), nI_clamp (by omega), nI_clamp (by omega), show h + 2 + 1 + w = h + 3 + w by omega, H.2.2.2.2.2.1 w hw i q (by omega)]
        by_cases c : V.2.1 (10 + w) i = nm
        · rw [if_pos c, Ok_some]
          exact Or.inr ⟨1, rfl, rfl, Or.inr ⟨by decide, i, fnd_le (a := 0) hn (decide_eq_true c) _ q, rfl⟩⟩
        · rw [if_neg c, Ok_vl, nI_1, Ok_some]
          refine Or.inl ⟨rfl, q, rfl, rfl, ?_⟩
          unfold fnd
          rw [hn]
          simp [c]
      · rw [if_pos (nI_le q (by omega)), Ok_some]
        have : i = V.1 w := by omega
        subst this
        exact Or.inr ⟨0, rfl, rfl, Or.inl ⟨rfl, hn⟩⟩
    · rintro u ⟨z, μ1⟩ ⟨hm, hq⟩
      dsimp only at hm hq ⊢
      subst hm
      rcases hq with ⟨rfl, hn⟩ | ⟨hu, b, hb, rfl⟩
      · rw [if_pos rfl, Ok_some, hn]; exact ⟨rfl, rfl⟩
      · rw [if_neg hu, Ok_some, hb]; exact ⟨rfl, rfl⟩
  obtain ⟨a, b, e, rfl, rfl⟩ := key
  exact e
theorem sim_named (a b : Int32) : Sim Rel (f_X10_named 0 a b) (f_X11_named 181 a b) := by
  refine simQ fun μ ν V S X h hV hS hX C M => ?_
  have cc := C.2.2.2.2.2.1
  have h6 : V.1 0 ≤ 6 := hV.1
  have h8 : V.1 2 ≤ 8 := hV.2.2.1
  have hd : V.1 3 ≤ 6 := hV.2.2.2.1
  by_cases a0 : a = 0
  · refine ⟨oI (fnd (fun j => decide (V.2.1 10 j = b)) (V.1 0)), ?_, ?_⟩
    · unfold f_X10_named
      rw [if_pos a0]
      refine qc_h C ?_
      rw [show f_X2_find h 0 = f_X2_find h (nI 0) from rfl, find_eq C.2.2.2.1 (w := 0) (by omega) (by omega), bd_some]
      exact qc_some cc
    · unfold f_X11_named
      refine qm_th hV hX M fun ν1 K M => ?_
      simp only [Nat.reduceAdd]
      rw [if_pos a0, M.1.1 0 (by omega), show f_X11_found 184 0 = f_X11_found 184 (nI 0) from rfl, found_eq (N := 12) (by decide) (by omega) (by omega), bd_some, fnd_congr (q := fun j => decide (V.2.1 10 j = b)) (fun i hi => by simp only [Nat.zero_add]; rw [M.1.2.2.2.2.2.1 i hi])]
      exact qm_some K
  · by_cases a1 : a = 1
    · refine ⟨oI (fnd (fun j => decide (V.2.1 12 j = b)) (V.1 2)), ?_, ?_⟩
      · unfold f_X10_named
        rw [if_neg a0, if_pos a1]
        refine qc_h C ?_
        rw [show f_X2_find h 2 = f_X2_find h (nI 2) from rfl, find_eq C.2.2.2.1 (w := 2) (by omega) (by omega), bd_some]
        exact qc_some cc
      · unfold f_X11_named
        refine qm_th hV hX M fun ν1 K M => ?_
        simp only [Nat.reduceAdd]
        rw [if_neg a0, if_pos a1, M.1.1 2 (by omega), show f_X11_found 187 0 = f_X11_found 187 (nI 0) from rfl, found_eq (N := 16) (by decide) (by omega) (by omega), bd_some, fnd_congr (q := fun j => decide (V.2.1 12 j = b)) (fun i hi => by simp only [Nat.zero_add]; rw [M.1.2.2.2.2.2.2.1 i hi])]
        exact qm_some K
    · by_cases a2 : a = 2
      · refine ⟨oI (fnd (fun j => decide (V.2.1 13 j = b)) (V.1 3)), ?_, ?_⟩
        · unfold f_X10_named
          rw [if_neg a0, if_neg a1, if_pos a2]
          refine qc_h C ?_
          rw [show f_X2_find h 3 = f_X2_find h (nI 3) from rfl, find_eq C.2.2.2.1 (w := 3) (by omega) (by omega), bd_some]
          exact qc_some cc
        · unfold f_X11_named
          refine qm_th hV hX M fun ν1 K M => ?_
          simp only [Nat.reduceAdd]
          rw [if_neg a0, if_neg a1, if_pos a2, M.1.1 3 (by omega), show f_X11_found 191 0 = f_X11_found 191 (nI 0) from rfl, found_eq (N := 12) (by decide) (by omega) (by omega), bd_some, fnd_congr (q := fun j => decide (V.2.1 13 j = b)) (fun i hi => by simp only [Nat.zero_add]; rw [M.1.2.2.2.2.2.2.2.1 i hi])]
          exact qm_some K
      · refine ⟨-1, ?_, ?_⟩
        · unfold f_X10_named
          rw [if_neg a0, if_neg a1, if_neg a2]
          exact qc_some cc
        · unfold f_X11_named
          refine qm_th hV hX M fun ν1 K M => ?_
          rw [if_neg a0, if_neg a1, if_neg a2]
          exact qm_some K
theorem thingsInC_eq {μ : fMem} {V : HV} {S : SV} {s : Nat} (h8 : V.1 2 ≤ 8) (cS : CS μ s V S) (r : Nat) (hr : r < 2 ^ 31) : f_X7_thingsIn s (nI r) μ = some (thS V S (nI r), μ) := by
  have e0 : thS V S (nI r) = orN (fun t => decide (μ.1 (s + 1) t = nI r)) 8 := by
    rw [orN_ext (n := V.1 2) (m := 8) h8 (fun i a b => by rw [cS.2.2.2.2.2.2.2 i a b]; exact decide_eq_false (fun z => nI_nm1 hr z.symm))]
    exact orN_congr (fun i hi => by rw [cS.1 i hi])
  have key : Ok (f_X7_thingsIn s (nI r) μ) (fun z μ' => z = orN (fun t => decide (μ.1 (s + 1) t = nI r)) 8 ∧ μ' = μ) := by
    unfold f_X7_thingsIn
    rw [Ok_bd]
    refine Ok.mono (Q := fun u (q : Int32 × Int32 × fMem) => q.1 = orN (fun t => decide (μ.1 (s + 1) t = nI r)) 8 ∧ q.2.2 = μ) (Ok_lp 8 (fun i (q : Int32 × Int32 × fMem) => q.2.1 = nI i ∧ q.1 = orN (fun t => decide (μ.1 (s + 1) t = nI r)) i ∧ q.2.2 = μ) (by omega) ⟨rfl, rfl, rfl⟩ ?_) ?_
    · rintro i ⟨n, z, μ1⟩ hi ⟨hz, hn, hm⟩
      dsimp only at hz hn hm ⊢
      subst hz hn hm
      unfold f_X7_thingsIn_L4
      rcases Nat.lt_or_ge i 8 with q | q
      · have un : orN (fun t => decide (μ1.1 (s + 1) t = nI r)) (i + 1) = if decide (μ1.1 (s + 1) i = nI r) = true then orN (fun t => decide (μ1.1 (s + 1) t = nI r)) i ||| shl 1 (nI i) else orN (fun t => decide (μ1.1 (s + 1) t = nI r)) i := rfl
        rw [if_neg (show ¬ 8 ≤ nI i from nI_ge (b := 8) q (by omega)), gd_t (ixN q (by omega)), nI_clamp (by omega)]
        by_cases c : μ1.1 (s + 1) i = nI r
        · rw [if_pos c, Ok_vl, Ok_vl, nI_1, Ok_some]
          exact Or.inl ⟨rfl, q, rfl, by rw [un, if_pos (decide_eq_true c)], rfl⟩
        · rw [if_neg c, Ok_vl, nI_1, Ok_some]
          exact Or.inl ⟨rfl, q, rfl, by rw [un, if_neg (by simp [c])], rfl⟩
      · rw [if_pos (show 8 ≤ nI i from nI_le (a := 8) q (by omega)), Ok_some]
        have : i = 8 := by omega
        subst this
        exact Or.inr ⟨0, rfl, rfl, rfl⟩
    · rintro u ⟨n, z, μ1⟩ h
      exact Ok_some.mpr h
  obtain ⟨a, b, e, rfl, rfl⟩ := key
  rw [e, e0]
theorem and1 (x : Int32) : x &&& 1 = 0 ∨ x &&& 1 = 1 := by
  have h : (x &&& 1).toBitVec = if x.toBitVec.getLsbD 0 then BitVec.twoPow 32 0 else 0#32 := by
    rw [Int32.toBitVec_and]
    exact BitVec.and_twoPow x.toBitVec 0
  by_cases c : x.toBitVec.getLsbD 0 = true
  · rw [if_pos c] at h; exact Or.inr (Int32.toBitVec_inj.mp h)
  · rw [if_neg c] at h; exact Or.inl (Int32.toBitVec_inj.mp h)
theorem shr_val {x : Int32} {r : Nat} (hr : r < 8) : (shr x (nI r) &&& 1) = if nbit x r then 0 else 1 := by
  by_cases b : nbit x r
  · rw [if_pos b]; exact (shr_bit hr).mpr b
  · rw [if_neg b]; exact (and1 _).resolve_left (fun z => b ((shr_bit hr).mp z))
theorem sim_room (a w : Int32) : Sim Rel (f_X10_room 0 a w) (f_X11_room 181 a w) := by
  refine simQ fun μ ν V S X h hV hS hX C M => ?_
  have cc := C.2.2.2.2.2.1
  have cS := C.2.2.2.2.1
  have h6 : V.1 0 ≤ 6 := hV.1
  have h8 : V.1 2 ≤ 8 := hV.2.2.1
  by_cases c : hs (V.1 0) a
  · obtain ⟨r, hr, rfl⟩ := hs_ex c (by omega)
    refine ⟨if w = 0 then S 3 r else if w = 1 then (if nbit (S 5 0) r then 0 else 1) else if w = 2 then bcS (thS V S (nI r)) else if w = 3 then thS V S (nI r) else -1, ?_, ?_⟩
    · unfold f_X10_room
      refine qc_h C ?_
      simp only [has0 C.2.2.2.1, bd_some, if_pos c, if_neg (show ¬ (1 : Int32) = 0 by decide), Nat.reduceAdd, gd_t (show ixo (nI r) 6 from ixN (by omega) (by omega)), nI_clamp (show r < 2 ^ 31 by omega), cS.2.2.2.1 r (by omega), isRoped_eq, cS.2.2.2.2.2.1, thingsInC_eq h8 cS r (by omega), thS, bitCount_or _ h8]
      by_cases w0 : w = 0
      · rw [if_pos w0, if_pos w0]; exact qc_some cc
      · rw [if_neg w0, if_neg w0]
        by_cases w1 : w = 1
        · rw [if_pos w1, if_pos w1]
          by_cases b : nbit (S 5 0) r
          · rw [if_pos b]; simp only [if_true]; exact qc_some cc
          · rw [if_neg b]; simp only [show ¬ (1 : Int32) = 0 by decide, if_false]; exact qc_some cc
        · rw [if_neg w1, if_neg w1]
          by_cases w2 : w = 2
          · rw [if_pos w2, if_pos w2]; exact qc_some cc
          · rw [if_neg w2, if_neg w2]
            by_cases w3 : w = 3
            · rw [if_pos w3, if_pos w3]; exact qc_some cc
            · rw [if_neg w3, if_neg w3]; exact qc_some cc
    · unfold f_X11_room
      refine qm_th hV hX M fun ν1 K M => ?_
      have m3 := M.2.1.2.2.2.1 r (by omega)
      have m5 := M.2.1.2.2.2.2.2.1
      rw [show 6 * 0 + r = r by omega] at m3
      rw [if_neg (by decide)] at m5
      simp only [isRoom_eq M.1, bd_some, if_pos c, if_neg (show ¬ (1 : Int32) = 0 by decide), Nat.reduceAdd, gd_t (show ixo (nI r) 138 from ixN (by omega) (by omega)), nI_clamp (show r < 2 ^ 31 by omega), m3, m5, thingsInM_eq M.1 hV M.2.1, bitsOf_eq, shr_val (show r < 8 by omega)]
      by_cases w0 : w = 0
      · rw [if_pos w0, if_pos w0]; exact qm_some K
      · rw [if_neg w0, if_neg w0]
        by_cases w1 : w = 1
        · rw [if_pos w1, if_pos w1]; exact qm_some K
        · rw [if_neg w1, if_neg w1]
          by_cases w2 : w = 2
          · rw [if_pos w2, if_pos w2]; exact qm_some K
          · rw [if_neg w2, if_neg w2]
            by_cases w3 : w = 3
            · rw [if_pos w3, if_pos w3]; exact qm_some K
            · rw [if_neg w3, if_neg w3]; exact qm_some K
  · refine ⟨-1, ?_, ?_⟩
    · unfold f_X10_room
      refine qc_h C ?_
      rw [has0 C.2.2.2.1, bd_some, if_neg c, if_pos rfl]; exact qc_some cc
    · unfold f_X11_room
      refine qm_th hV hX M fun ν1 K M => ?_
      rw [isRoom_eq M.1, bd_some, if_neg c, if_pos rfl]; exact qm_some K
theorem sim_dead (a w : Int32) : Sim Rel (f_X10_dead 0 a w) (f_X11_dead 181 a w) := by
  refine simQ fun μ ν V S X h hV hS hX C M => ?_
  have cc := C.2.2.2.2.2.1
  have cS := C.2.2.2.2.1
  have h6 : V.1 3 ≤ 6 := hV.2.2.2.1
  by_cases c : hs (V.1 3) a
  · obtain ⟨d, hd, rfl⟩ := hs_ex c (by omega)
    obtain ⟨d1, d2, d3, d4⟩ := C.2.2.2.1.2.2.2.1 d hd
    refine ⟨if w = 0 then V.2.1 3 d else if w = 1 then V.2.1 4 d else if w = 2 then V.2.1 5 d else if w = 3 then V.2.1 6 d else if w = 4 then S 4 d else -1, ?_, ?_⟩
    · unfold f_X10_dead
      refine qc_h C ?_
      simp only [has3 C.2.2.2.1, bd_some, if_pos c, if_neg (show ¬ (1 : Int32) = 0 by decide), Nat.reduceAdd, vl, C.2.1, gd_t C.kd, gd_t (show ixo (nI d) 6 from ixN (by omega) (by omega)), nI_clamp (show d < 2 ^ 31 by omega), d1, d2, d3, d4, cS.2.2.2.2.1 d (by omega)]
      by_cases w0 : w = 0
      · rw [if_pos w0, if_pos w0]; exact qc_some cc
      · rw [if_neg w0, if_neg w0]
        by_cases w1 : w = 1
        · rw [if_pos w1, if_pos w1]; exact qc_some cc
        · rw [if_neg w1, if_neg w1]
          by_cases w2 : w = 2
          · rw [if_pos w2, if_pos w2]; exact qc_some cc
          · rw [if_neg w2, if_neg w2]
            by_cases w3 : w = 3
            · rw [if_pos w3, if_pos w3]; exact qc_some cc
            · rw [if_neg w3, if_neg w3]
              by_cases w4 : w = 4
              · rw [if_pos w4, if_pos w4]; exact qc_some cc
              · rw [if_neg w4, if_neg w4]; exact qc_some cc
    · unfold f_X11_dead
      refine qm_th hV hX M fun ν1 K M => ?_
      obtain ⟨e1, e2, e3, e4⟩ := M.1.2.2.2.1 d hd
      have m4 := M.2.1.2.2.2.2.1 d (by omega)
      rw [show 6 * 0 + d = d by omega] at m4
      simp only [isDead_eq M.1, bd_some, if_pos c, if_neg (show ¬ (1 : Int32) = 0 by decide), Nat.reduceAdd, gd_t (show ixo (nI d) 12 from ixN (by omega) (by omega)), gd_t (show ixo (nI d) 138 from ixN (by omega) (by omega)), nI_clamp (show d < 2 ^ 31 by omega), e1, e2, e3, e4, m4]
      by_cases w0 : w = 0
      · rw [if_pos w0, if_pos w0]; exact qm_some K
      · rw [if_neg w0, if_neg w0]
        by_cases w1 : w = 1
        · rw [if_pos w1, if_pos w1]; exact qm_some K
        · rw [if_neg w1, if_neg w1]
          by_cases w2 : w = 2
          · rw [if_pos w2, if_pos w2]; exact qm_some K
          · rw [if_neg w2, if_neg w2]
            by_cases w3 : w = 3
            · rw [if_pos w3, if_pos w3]; exact qm_some K
            · rw [if_neg w3, if_neg w3]
              by_cases w4 : w = 4
              · rw [if_pos w4, if_pos w4]; exact qm_some K
              · rw [if_neg w4, if_neg w4]; exact qm_some K
  · refine ⟨-1, ?_, ?_⟩
    · unfold f_X10_dead
      refine qc_h C ?_
      rw [has3 C.2.2.2.1, bd_some, if_neg c, if_pos rfl]; exact qc_some cc
    · unfold f_X11_dead
      refine qm_th hV hX M fun ν1 K M => ?_
      rw [isDead_eq M.1, bd_some, if_neg c, if_pos rfl]; exact qm_some K
theorem sim_door (a b : Int32) : Sim Rel (f_X10_door 0 a b) (f_X11_door 181 a b) := by
  refine simQ fun μ ν V S X h hV hS hX C M => ?_
  have cc := C.2.2.2.2.2.1
  have h6 : V.1 0 ≤ 6 := hV.1
  by_cases c : hs (V.1 0) a
  · by_cases c2 : hs (V.1 0) b
    · obtain ⟨r, hr, rfl⟩ := hs_ex c (by omega)
      obtain ⟨q, hq, rfl⟩ := hs_ex c2 (by omega)
      refine ⟨if V.2.2.1 r q = true then 1 else 0, ?_, ?_⟩
      · unfold f_X10_door
        refine qc_h C ?_
        simp only [has0 C.2.2.2.1, bd_some, if_pos c, if_pos c2, if_neg (show ¬ (1 : Int32) = 0 by decide), vl, C.2.1, gd_t C.kd, leads_eq C.2.2.2.1 (show r < 6 by omega) (show q < 6 by omega)]
        by_cases z : V.2.2.1 r q = true
        · rw [if_pos z, if_neg (by decide)]; exact qc_some cc
        · rw [if_neg z, if_pos rfl]; exact qc_some cc
      · unfold f_X11_door
        refine qm_th hV hX M fun ν1 K M => ?_
        simp only [isRoom_eq M.1, bd_some, if_pos c, if_pos c2, if_neg (show ¬ (1 : Int32) = 0 by decide), isDoor_eq M.1 hV (show r < 6 by omega) (show q < 6 by omega)]
        by_cases z : V.2.2.1 r q = true
        · rw [if_pos z, if_neg (by decide)]; exact qm_some K
        · rw [if_neg z, if_pos rfl]; exact qm_some K
    · refine ⟨-1, ?_, ?_⟩
      · unfold f_X10_door
        refine qc_h C ?_
        simp only [has0 C.2.2.2.1, bd_some, if_pos c, if_neg c2, if_neg (show ¬ (1 : Int32) = 0 by decide), vl, C.2.1, gd_t C.kd, if_true]
        exact qc_some cc
      · unfold f_X11_door
        refine qm_th hV hX M fun ν1 K M => ?_
        simp only [isRoom_eq M.1, bd_some, if_pos c, if_neg c2, if_neg (show ¬ (1 : Int32) = 0 by decide), if_true]
        exact qm_some K
  · refine ⟨-1, ?_, ?_⟩
    · unfold f_X10_door
      refine qc_h C ?_
      rw [has0 C.2.2.2.1, bd_some, if_neg c, if_pos rfl]; exact qc_some cc
    · unfold f_X11_door
      refine qm_th hV hX M fun ν1 K M => ?_
      rw [isRoom_eq M.1, bd_some, if_neg c, if_pos rfl]; exact qm_some K
theorem sim_gauge (a : Int32) : Sim Rel (f_X10_gauge 0 a) (f_X11_gauge 181 a) := by
  refine simQ fun μ ν V S X h hV hS hX C M => ?_
  have cc := C.2.2.2.2.2.1
  by_cases c : a < 0
  · refine ⟨-1, ?_, ?_⟩
    · unfold f_X10_gauge; rw [if_pos c]; exact qc_some cc
    · unfold f_X11_gauge
      refine qm_th hV hX M fun ν1 K M => ?_
      rw [if_pos c]; exact qm_some K
  · by_cases c2 : a ≤ 9999
    · obtain ⟨m, hm, rfl⟩ := nI_of c
      refine ⟨glassS V (nI m), ?_, ?_⟩
      · unfold f_X10_gauge
        rw [if_neg c, if_pos c2]
        refine qc_h C ?_
        rw [glassOf_spec C.2.2.2.1 hV hm, bd_some]; exact qc_some cc
      · unfold f_X11_gauge
        refine qm_th hV hX M fun ν1 K M => ?_
        rw [if_neg c, if_neg (Int32.not_lt.mpr c2), glassAt_eq M.1 hV hm, bd_some]; exact qm_some K
    · refine ⟨-1, ?_, ?_⟩
      · unfold f_X10_gauge; rw [if_neg c, if_neg c2]; exact qc_some cc
      · unfold f_X11_gauge
        refine qm_th hV hX M fun ν1 K M => ?_
        rw [if_neg c, if_pos (Int32.not_le.mp c2)]; exact qm_some K
end Sim1
