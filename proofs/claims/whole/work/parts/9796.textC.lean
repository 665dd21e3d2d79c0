/-! a text, both sides: the ends -/
theorem nI_up {x : Int32} (h : Upto 255 x) : x.toNatClampNeg ≤ 255 ∧ x = nI x.toNatClampNeg := by
  obtain ⟨v, hv, rfl⟩ := h
  rw [nI_clamp (by omega)]
  exact ⟨hv, rfl⟩
theorem cread_begin {μ : fMem} {V : HV} {S : SV} {X : RX} {h y N : Nat} (hX : XW V X) (C : RC μ V S X h) (hy : y = 39 - h) (hN : N ≤ X.2.2.2.1.1) : ∃ μ' t K, f_X5_read 30 1 (nI N) (sI μ 0 1 0) = bd (lpn (fun (q : Int32 × fMem) => f_X5_read_L28 30 q.1 q.2) fuel ((0 : Int32), μ')) (fun t25 q26 => if t25 = 0 then gd (bl (1 : Int32)) (some ((1 : Int32), q26.2)) else if t25 = 1 then gd (bl (0 : Int32)) (some ((0 : Int32), q26.2)) else bd (f_X5_fail 30 (1 : Int32) q26.2) fun r30 μ29 => gd (bl r30) (some (r30, μ29))) ∧ Kx (fun a j => PCc y a ∨ (a = 0 ∧ j = 1)) BN μ μ' ∧ μ'.1 0 1 = 0 ∧ Toks (fun j => (X.2.2.2.1.2 j).toNatClampNeg) N t K ∧ TkOk t ∧ CT μ' t K 0 ∧ CST μ' y ∧ μ'.1 30 0 = 0 ∧ μ'.1 30 1 = -1 := by
  have hh := C.1
  have hy2 : y = 2 ∨ y = 37 := by omega
  have h700 : X.2.2.2.1.1 ≤ 700 := hX.2.2.2.1
  have c10 := C.2.2.2.2.2.2.2.2.2.1
  have c13 := C.2.2.2.2.2.2.2.2.2.2.2.2
  unfold f_X5_read
  simp only [vl, Nat.reduceAdd]
  generalize hμ2 : sI (sI (sI μ 0 1 0) 30 0 0) 30 1 (-1) = μ2
  have K2 : Kx (fun a j => PCc y a ∨ (a = 0 ∧ j = 1)) BN μ μ2 := by
    subst hμ2
    exact ((Kx.rfl'.sI (Or.inr ⟨rfl, rfl⟩)).sI (Or.inl (Or.inl (by omega)))).sI (Or.inl (Or.inl (by omega)))
  have g2 : μ2.1 0 1 = 0 ∧ μ2.1 30 0 = 0 ∧ μ2.1 30 1 = -1 := by
    subst hμ2
    refine ⟨?_, ?_, ?_⟩ <;> simp [sI_i]
  have r2 : μ2.2.2 30 3 = y := by rw [K2.1, hy]; exact C.2.2.1
  rw [r2, gd_t (kd2 hy2)]
  obtain ⟨u5, μ5, e5, K5, c1, c2, c3, c4⟩ := hclear_spec hy2 μ2
  rw [e5, bd_some]
  have f2 : ∀ a j, ¬ PCc y a → ¬ (a = 0 ∧ j = 1) → μ5.1 a j = μ.1 a j := fun a j h1 h2 => by
    rw [K5.2.1 _ _ (fun z => h1 (by unfold PCc; omega)), K2.2.1 _ _ (fun z => z.elim h1 h2)]
  obtain ⟨u8, μ8, e8, K8, t0, K, T0, C0⟩ := cut_spec (μ := μ5) (b := fun j => (X.2.2.2.1.2 j).toNatClampNeg) (N := N) (by omega) (fun j hj => by
    have hu := nI_up (hX.2.2.2.2 j (by omega))
    refine ⟨hu.1, ?_⟩
    rw [f2 _ _ (by unfold PCc; omega) (by omega), c10.2 j (by omega)]
    exact hu.2) (fun j hj => by rw [f2 _ _ (by unfold PCc; omega) (by omega)]; exact c13 j hj)
  obtain ⟨t, T, C8, hT⟩ := toks_ok T0 C0
  rw [e8, bd_some]
  have f8 : ∀ a j, ¬ AXC a j → μ8.1 a j = μ5.1 a j := fun a j h => K8.2.1 a j h
  refine ⟨μ8, t, K, rfl, (K2.trans (K5.wide (fun a j z => Or.inl (by unfold PCc; omega)) (fun _ _ z => z))).trans (K8.wide (fun a j z => Or.inl (by unfold PCc; omega)) (fun _ _ z => z)), ?_, T, hT, C8, ⟨?_, ?_, fun j hj => ?_, fun l hl => ?_⟩, ?_, ?_⟩
  · rw [f8 _ _ (by omega), K5.2.1 _ _ (by omega)]; exact g2.1
  · rw [f8 _ _ (by omega)]; exact c1
  · rw [f8 _ _ (by omega)]; exact c2
  · rw [f8 _ _ (by omega), f8 _ _ (by omega)]; exact c3 j hj
  · rw [f8 _ _ (by omega), f8 _ _ (by omega), f8 _ _ (by omega)]; exact c4 l hl
  · rw [f8 _ _ (by omega), K5.2.1 _ _ (by omega)]; exact g2.2.1
  · rw [f8 _ _ (by omega), K5.2.1 _ _ (by omega)]; exact g2.2.2
theorem tend_bad {ν : fMem} (h : ¬ ν.1 181 28 = 0) : tx_end 181 ν = some (-1, sI (sI ν 181 30 (ν.1 181 28)) 181 31 (ν.1 181 29)) := by
  unfold tx_end
  simp only [vl]
  rw [show (sI ν 181 30 (ν.1 181 28)).1 181 29 = ν.1 181 29 by rw [sI_i, if_neg (by omega)], show (sI (sI ν 181 30 (ν.1 181 28)) 181 31 (ν.1 181 29)).1 181 28 = ν.1 181 28 by rw [sI_i, if_neg (by omega), sI_i, if_neg (by omega)], if_neg h]
theorem tend_ok {μ ν : fMem} {y : Nat} {c : Nat → Nat} {D : Nat → Nat → Bool} {L : Nat → List (Int32 × Int32)} (h28 : ν.1 181 28 = 0) (h29 : ν.1 181 29 = -1) (h2 : ν.1 181 2 = 0) (hZ : MZ ν) (H : JB μ y ν c D L) (T : Nat → Int32) : Ok (tx_end 181 ν) (fun r ν' => r = ν.1 181 22 ∧ HW (tV μ y c D L) ∧ CH μ y (tV μ y c D L) ∧ RM ν' (tV μ y c D L) (S0 (tV μ y c D L)) (none, [], (0, fun _ _ => 0, -1), (0, T), (0, -1))) := by
  unfold tx_end
  simp only [Nat.reduceAdd]
  rw [Ok_vl, Ok_vl, show (sI ν 181 30 (ν.1 181 28)).1 181 29 = -1 by rw [sI_i, if_neg (by omega)]; exact h29, h28]
  generalize hν0 : sI (sI ν 181 30 0) 181 31 (-1) = ν0
  have f0 : ∀ a j, ¬ (a = 181 ∧ (j = 30 ∨ j = 31)) → ν0.1 a j = ν.1 a j := by
    intro a j h
    subst hν0
    rw [sI_i, if_neg (by omega), sI_i, if_neg (by omega)]
  have g0 : ν0.1 181 30 = 0 ∧ ν0.1 181 31 = -1 := by
    subst hν0
    refine ⟨?_, ?_⟩ <;> simp [sI_i]
  rw [if_pos (show ν0.1 181 28 = 0 by rw [f0 _ _ (by omega)]; exact h28)]
  have F183 : HfN ν0 183 ν0 := ⟨Kx.rfl', fun a h1 h2 => by omega⟩
  refine Ok_bd.mpr ((F183.step (by omega) (by omega)).mono ?_)
  rintro - ν184 F184
  refine Ok_bd.mpr ((F184.step (by omega) (by omega)).mono ?_)
  rintro - ν185 F185
  refine Ok_bd.mpr ((F185.step (by omega) (by omega)).mono ?_)
  rintro - ν186 F186
  refine Ok_bd.mpr ((F186.step (by omega) (by omega)).mono ?_)
  rintro - ν187 F187
  refine Ok_bd.mpr ((F187.step (by omega) (by omega)).mono ?_)
  rintro - ν188 F188
  refine Ok_bd.mpr ((F188.step (by omega) (by omega)).mono ?_)
  rintro - ν189 F189
  refine Ok_bd.mpr ((F189.step (by omega) (by omega)).mono ?_)
  rintro - ν190 F190
  refine Ok_bd.mpr ((F190.step (by omega) (by omega)).mono ?_)
  rintro - ν191 F191
  refine Ok_bd.mpr ((F191.step (by omega) (by omega)).mono ?_)
  rintro - ν192 F192
  refine Ok_bd.mpr ((F192.step (by omega) (by omega)).mono ?_)
  rintro - ν193 F193
  refine Ok_bd.mpr ((F193.step (by omega) (by omega)).mono ?_)
  rintro - ν194 F194
  refine Ok_bd.mpr ((F194.step (by omega) (by omega)).mono ?_)
  rintro - ν195 F195
  refine Ok_bd.mpr ((F195.step (by omega) (by omega)).mono ?_)
  rintro - ν196 F196
  refine Ok_bd.mpr ((F196.step (by omega) (by omega)).mono ?_)
  rintro - ν197 F197
  refine Ok_bd.mpr ((F197.step (by omega) (by omega)).mono ?_)
  rintro - ν198 F198
  refine Ok_bd.mpr ((F198.step (by omega) (by omega)).mono ?_)
  rintro - ν199 F199
  refine Ok_bd.mpr ((F199.step (by omega) (by omega)).mono ?_)
  rintro - ν200 F200
  refine Ok_bd.mpr ((F200.step (by omega) (by omega)).mono ?_)
  rintro - ν201 F201
  rw [Ok_vl, Ok_vl, Ok_vl, Ok_vl]
  obtain ⟨hV, cH, mH⟩ := (H.of (μ' := μ) (ν' := ν0) (fun _ _ _ _ _ => rfl) (fun a j z => f0 a j (by omega))).house F201
  generalize hν2 : sI (sI (sI (sI ν201 181 57 0) 181 58 (-1)) 181 45 0) 181 46 0 = ν2
  have f2 : ∀ a j, ¬ (a = 181 ∧ (j = 57 ∨ j = 58 ∨ j = 45 ∨ j = 46)) → ν2.1 a j = ν201.1 a j := by
    intro a j h
    subst hν2
    rw [sI_i, if_neg (by omega), sI_i, if_neg (by omega), sI_i, if_neg (by omega), sI_i, if_neg (by omega)]
  have g2 : ν2.1 181 57 = 0 ∧ ν2.1 181 58 = -1 ∧ ν2.1 181 45 = 0 ∧ ν2.1 181 46 = 0 := by
    subst hν2
    refine ⟨?_, ?_, ?_, ?_⟩ <;> simp [sI_i]
  have mH2 := mH.of hV (fun c a b j _ => f2 c j (by omega))
  rw [Ok_bd]
  unfold f_X11_begins
  rw [Ok_bd]
  show Ok (f_X11_starts 181 (nI 0) ν2) _
  refine (starts_spec (y := 0) hV mH2 (by omega)).mono ?_
  rintro - ν3 ⟨K3, s3⟩
  rw [Ok_some, Ok_some]
  have k3 : ∀ j, ν3.1 181 j = ν2.1 181 j := fun j => K3.2.1 181 j (by unfold Px; omega)
  have k1 : ∀ j, ν201.1 181 j = ν0.1 181 j := fun j => F201.1.2.1 181 j (by omega)
  have kz : ∀ j, ¬ (j = 57 ∨ j = 58 ∨ j = 45 ∨ j = 46) → ν3.1 181 j = ν0.1 181 j := fun j h => by rw [k3, f2 _ _ (by omega), k1]
  have ky : ∀ j, ¬ (j = 57 ∨ j = 58 ∨ j = 45 ∨ j = 46) → ¬ (j = 30 ∨ j = 31) → ν3.1 181 j = ν.1 181 j := fun j h h' => by rw [kz j h, f0 _ _ (by omega)]
  refine ⟨ky 22 (by omega) (by omega), hV, cH, mH2.of hV (fun c a b j _ => K3.2.1 c j (by unfold Px; omega)), s3, ?_, ?_, ⟨?_, trivial⟩, ⟨?_, ?_, fun k hk => absurd hk (Nat.not_lt_zero _)⟩, ⟨?_, fun j hj => absurd hj (Nat.not_lt_zero _)⟩, ?_, ?_⟩
  · unfold MZ at hZ ⊢
    rw [ky 47 (by omega) (by omega), ky 48 (by omega) (by omega), ky 49 (by omega) (by omega), ky 50 (by omega) (by omega)]
    exact hZ
  · show ν3.1 181 45 = 0
    rw [k3]; exact g2.2.2.1
  · rw [k3]; exact g2.2.2.2
  · rw [k3]; exact g2.1
  · rw [k3]; exact g2.2.1
  · rw [ky 2 (by omega) (by omega)]; exact h2
  · rw [kz 30 (by omega)]; exact g0.1
  · rw [kz 31 (by omega)]; exact g0.2
theorem kd121 : kd 121 = (2, 48) := by decide
theorem cend {μ : fMem} {V : HV} {h y : Nat} (hV : HW V) (hh : h = 2 ∨ h = 37) (hy : y = 39 - h) (r0 : μ.2.2 0 2 = h) (r3 : μ.2.2 30 3 = y) (cH : CH μ y V) (e1 : μ.1 0 1 = 0) (e30 : μ.1 30 0 = 0) (e31 : μ.1 30 1 = -1) (e32 : ∀ j, j < 20 → μ.1 32 j = lwT j) (T : Nat → Int32) : Ok (tc_end 0 μ) (fun r μ' => r = μ.1 y 1 ∧ RC μ' V (S0 V) (none, [], (0, fun _ _ => 0, -1), (0, T), (0, -1)) y) := by
  have hy2 : y = 2 ∨ y = 37 := by omega
  have v2 : V.1 2 ≤ 8 := hV.2.2.1
  have v3 : V.1 3 ≤ 6 := hV.2.2.2.1
  unfold tc_end f_X5_trade f_X4_clear f_X8_clear f_X0_forget
  simp only [vl, Nat.reduceAdd, bd_some]
  rw [r0, gd_t (kd2 hh), r3, gd_t (kd2 hy2), bd_some, gd_t (kd2 hy2)]
  have r5 : (sR (sR μ 30 3 h) 0 2 y).2.2 0 2 = y := by rw [sR_r, if_pos ⟨rfl, rfl⟩]
  have r6 : (sR (sR μ 30 3 h) 0 2 y).2.2 30 3 = h := by rw [sR_r, if_neg (by omega), sR_r, if_pos ⟨rfl, rfl⟩]
  have i1 : (sR (sR μ 30 3 h) 0 2 y).1 = μ.1 := rfl
  rw [r5]
  generalize sR (sR μ 30 3 h) 0 2 y = μ1 at r5 r6 i1 ⊢
  rw [gd_t (kd2 hy2), Ok_bd]
  refine (enter_spec hV (cH.of (μ' := μ1) fun k a b => by rw [i1]) hy2 (Or.inl rfl)).mono ?_
  rintro - μ2 ⟨cS, K2⟩
  rw [fillL_spec 121 (-1) _ kd121 (by decide), bd_some, bd_some]
  generalize hμ3 : sI (sI (sI (sI μ2 123 0 0) 123 1 (-1)) 130 0 0) 0 6 0 = μ3
  have f3 : ∀ a j, ¬ (a = 123 ∧ (j = 0 ∨ j = 1)) → ¬ (a = 130 ∧ j = 0) → ¬ (a = 0 ∧ j = 6) → μ3.1 a j = μ2.1 a j := by
    intro a j h1 h2 h3
    subst hμ3
    rw [sI_i, if_neg (by omega), sI_i, if_neg (by omega), sI_i, if_neg (by omega), sI_i, if_neg (by omega)]
  have g3 : μ3.1 123 0 = 0 ∧ μ3.1 123 1 = -1 ∧ μ3.1 130 0 = 0 ∧ μ3.1 0 6 = 0 := by
    subst hμ3
    refine ⟨?_, ?_, ?_, ?_⟩ <;> simp [sI_i]
  have q3 : μ3.2.2 = μ2.2.2 := by subst hμ3; rfl
  have f1 : ∀ a j, ¬ (66 ≤ a ∧ a ≤ 71) → μ2.1 a j = μ.1 a j := fun a j ha => by rw [K2.2.1 a (by simp only [sS, List.mem_cons, List.not_mem_nil, or_false]; omega), i1]
  have fe : ∀ a j, (2 ≤ a ∧ a ≤ 65) ∨ (a = 0 ∧ ¬ j = 6) → μ3.1 a j = μ.1 a j := fun a j h => by rw [f3 _ _ (by omega) (by omega) (by omega), f1 _ _ (by omega)]
  have rr : (sRowL μ3 121 fun j => if j < 48 then -1 else μ3.2.1 121 j).2.2 0 2 = y := by
    show μ3.2.2 0 2 = y
    rw [q3, K2.1]; exact r5
  rw [rr, gd_t (kd2 hy2), Ok_some]
  refine ⟨fe _ _ (by omega), hy2, rr, ?_, ?_, ?_, fun d t hd ht => Or.inl ?_, g3.2.2.2, ⟨g3.2.2.1, trivial⟩, ⟨g3.1, g3.2.1, fun k hk => absurd hk (Nat.not_lt_zero _)⟩, ⟨?_, fun j hj => absurd hj (Nat.not_lt_zero _)⟩, ?_, ?_, fun j hj => ?_⟩
  · show μ3.2.2 30 3 = 39 - y
    rw [q3, K2.1, r6]; omega
  · exact cH.of fun k a b => funext fun j => fe k j (by omega)
  · exact cS.of fun k a b => funext fun j => f3 k j (by omega) (by omega) (by omega)
  · show (if 121 = 121 then (fun j => if j < 48 then (-1 : Int64) else μ3.2.1 121 j) else μ3.2.1 121) (8 * d + t) = -1
    rw [if_pos rfl]
    show (if 8 * d + t < 48 then (-1 : Int64) else _) = -1
    rw [if_pos (by omega)]
  · exact (fe 0 1 (by omega)).trans e1
  · exact (fe 30 0 (by omega)).trans e30
  · exact (fe 30 1 (by omega)).trans e31
  · exact (fe 32 j (by omega)).trans (e32 j hj)
theorem S0_SR {V : HV} (hV : HW V) : SR V (S0 V) := ⟨fun t ht => (hV.2.2.2.2.2.2.1 t ht).1, ⟨0, by omega, rfl⟩, fun j a b => ⟨rfl, rfl⟩, fun j a b => rfl⟩
