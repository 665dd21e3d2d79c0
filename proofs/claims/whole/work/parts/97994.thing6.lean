/-! the law's case of thing -/
theorem cd_X11_thing : Cond.code yX11_thing cX11_thing 3 (some .int) ∈ gw := gwm (by decide +kernel) rfl
theorem cd_X11_thrown : Cond.code yX11_thrown cX11_thrown 1 (some .int) ∈ gw := gwm (by decide +kernel) rfl
theorem mv_L_44 : MV RL 44 11 yX11_thing cX11_thing 3 (some .int) 2 := ⟨gwm (by decide +kernel) rfl, cd_X11_thing, gwm (by decide +kernel) rfl, gwm (by decide +kernel) rfl, gwm (by decide +kernel) rfl, ⟨_, rfl, rfl⟩, by decide, by decide, by decide +kernel⟩
theorem mv_L_45 : MV RL 45 11 yX11_thrown cX11_thrown 1 (some .int) 0 := ⟨gwm (by decide +kernel) rfl, cd_X11_thrown, gwm (by decide +kernel) rfl, gwm (by decide +kernel) rfl, gwm (by decide +kernel) rfl, ⟨_, rfl, rfl⟩, by decide, by decide, by decide +kernel⟩
theorem ml_L_39 : Cond.methodLink RL 39 yL_thing ∈ gw := gwm (by decide +kernel) rfl
theorem in_L : Cond.initialized RL ∈ gw := gwm (by decide +kernel) rfl
theorem st_L_thing : Cond.static yL_thing ∈ gw := gwm (by decide +kernel) rfl
theorem pd_L_thing : (parseMethodDescriptor yL_thing.desc).map (fun d => d.parameters.length) = some 4 := by decide +kernel
theorem LtA_old {w : fW} {s : State} (hAD : fAD w) (h0 : w.2.2.1 0 = s.heap.size) {q : Nat} (h : LtA w q) : s.heap.size ≤ q := by
  rcases h with h | h
  · have := fA_C hAD h
    omega
  · rw [h, hAD 221 (by omega)]
    omega
theorem l_next4 {Rel : fMem → fMem → Prop} {p : Program} {l : Launch} {e : Env} {s : State} {m : MethodId} {below : List Frame} {meth : Method} {c : Code} {w : fW} {b L i : Nat} {xs : Nat → Int32} {μ ν : fMem} {H : Heap} {locs : List Loc} {ls : Array Slot} {cl sl : Nat} (G : LG p s m b meth c w L xs) (next : LI Rel p l e s m b below meth c w (i + 6) 23) (hR : Rel μ ν) (hPC : fP (wC w) μ H) (hPM : fP (wM w) ν H) (ho : LO w H) (hS : va_S (fun q => s.heap.size ≤ q) s.heap H locs) (hl : lv_has ls 7 [(0, .ref b), (1, .ref (w.2.2.1 0)), (2, .ref (w.2.2.1 181)), (3, .ref (w.2.2.1 221)), (4, .int (nI i))]) (hcl : cl ≤ 222 + (i + 6)) (hsl : sl ≤ 8988 + 6 * (i + 6)) :
    W p l e room_1 s m #[Value.ref b] below meth c H locs cl sl (lw_Z below #[Value.ref b] s) (F0 m 1540 ls []) := by
  obtain ⟨⟨hx, hb, -⟩, -⟩ := id G
  refine lv_iinc (v := nI (i + 6)) (lv' := [(4, .int (nI (i + 6))), (0, .ref b), (1, .ref (w.2.2.1 0)), (2, .ref (w.2.2.1 181)), (3, .ref (w.2.2.1 221))]) hx hb dL_law_1540 hl (k := 4) rfl (nI_add i 6) (by decide) rfl (fun ls hl => ?_)
  refine lv_goto (tgt := 23) hx hb dL_law_1543 (by decide) ?_
  exact next μ ν H locs ls cl sl ⟨hR, hPC, hPM, ho, hS, lv_sub hl [1, 2, 3, 4, 0] rfl, hcl, hsl⟩
set_option maxHeartbeats 4000000 in
set_option maxRecDepth 100000 in
theorem lc_4 {Rel : fMem → fMem → Prop} {p : Program} {l : Launch} {e : Env} {s : State} {m : MethodId} {below : List Frame} {meth : Method} {c : Code} {w : fW} {b L i : Nat} {xs : Nat → Int32} (hl0 : l.stackTraces = false) (hX : fX (wC w) s s.heap) (G : LG p s m b meth c w L xs) (hi : i + 6 ≤ L) (sim : ∀ (a0 : Int32) (a1 : Int32), SimT Rel a0 a1) (next : LI Rel p l e s m b below meth c w (i + 6) 23) : LI Rel p l e s m b below meth c w i 372 := by
  intro μ ν H locs ls cl sl ⟨hR, hPC, hPM, ho, hS, hl, hcl, hsl⟩
  obtain ⟨⟨hx, hb, hml, hown, hts, hK, -, -, hT⟩, -, -, -, hAD, h0, hL⟩ := id G
  have n221 : ∀ k, 181 ≤ k → k < 221 → ¬ LtA w (w.2.2.1 k) := fun k h1 h2 q => by
    rcases q with q | q
    · have := fA_C hAD q
      rw [hAD k (by omega)] at this
      omega
    · rw [hAD k (by omega), hAD 221 (by omega)] at q
      omega
  have hz1 : cl + 1 ≤ room_1.cells ∧ sl + 6 ≤ room_1.slots := ⟨by show cl + 1 ≤ 601024; omega, by show sl + 6 ≤ 7293034; omega⟩
  refine lv_aload_n hx hb dL_law_372 rfl (lv_at hl 1 rfl) ?_
  refine l_arg (k := 1) G hS (lv_at hl 0 rfl) (lv_at hl 4 rfl) hi (by decide) (by decide) dL_law_373 dL_law_374 dL_law_376 dL_law_377 dL_law_378 ?_
  refine l_arg (k := 2) G hS (lv_at hl 0 rfl) (lv_at hl 4 rfl) hi (by decide) (by decide) dL_law_379 dL_law_380 dL_law_382 dL_law_383 dL_law_384 ?_
  refine lv_aload_n hx hb dL_law_385 rfl (lv_at hl 3 rfl) ?_
  obtain ⟨k, r, μ1, ν1, f1, f2, hth, hk2, hR⟩ := sim (xs (i + 1)) (xs (i + 2)) μ ν hR
  have cw : vx_CSW room_1 s #[Value.ref b] RL 39 yL_thing cL_thing 5 (some .int) hhT (.codeWith yL_thing cL_thing 5 (some .int) hhT :: gw) rm_L_thing 1 6 4 := by
    refine ⟨⟨rfl, rfl, by decide, by decide, fun x hx' a' U hW => ?_, List.mem_cons_self⟩, hts _ cd_L_thing, hts _ in_L, ⟨by decide, by decide⟩, fun sig hsig => ?_, hts _ ml_L_39, hts _ st_L_thing⟩
    · have hg : x ∈ gw := by
        rcases List.mem_cons.mp hx' with rfl | h
        · exact cd_L_thing
        · exact h
      exact word_at hW (good_of_word (List.mem_filter.mp hg).2) (hts x hg)
    · have e := pd_L_thing
      rw [hsig] at e
      exact (Option.some.inj e).symm
  have hp : PreS s H (LtPc w (xs (i + 1)) (xs (i + 2)) μ) [.ref (w.2.2.1 0), .int (xs (i + 1)), .int (xs (i + 2)), .ref (w.2.2.1 221)] := ⟨LtPc_blind, fun U hU hW => ⟨rfl, by rw [hU]; exact hPC, by rw [hU]; exact ho, va_K.moved hW.alike hK, by rw [hU]; exact hT.warm hW (l_old hS h0 _), by rw [hU]; exact hX.warm hW (l_old hS h0 _)⟩⟩
  refine vx_calli (A1 := LtA w) (vx_runSX (As := [.ref (w.2.2.1 0), .int (xs (i + 1)), .int (xs (i + 2)), .ref (w.2.2.1 221)]) (rest := []) ⟨hx, hb, hml, hown, hts⟩ (m_L_thing l hl0 w hAD (xs (i + 1)) (xs (i + 2)) μ f1) cw hp rfl rfl hl.1 rfl (lv_room (Nat.le_of_ble_eq_true rfl)) dL_law_386 hz1) hS (fun q _ z => LtA_old hAD h0 z) (fun q z => LtA_old hAD h0 z) (fun q _ z => z.elim) (fun E ce q9 u t H1 locs1 _ _ hpx => hpx.elim) ?_
  intro r' u t H1 locs1 ht _ hp' hB hz hk hS1
  obtain ⟨hB1, f, hB2, hB3⟩ := hB
  rw [ht] at hB1 hB2
  have hPM1 : fP (wM w) ν H1 := fP_kept hPM (fun k h1 h2 => hk _ (fP_lt hPM h1 h2) (n221 k h1 h2))
  have ho1 : LO w H1 := ⟨f, hB2⟩
  rw [hp']
  refine lv_istore (lv' := [(5, .int (nI k)), (0, .ref b), (1, .ref (w.2.2.1 0)), (2, .ref (w.2.2.1 181)), (3, .ref (w.2.2.1 221)), (4, .int (nI i))]) hx hb dL_law_389 hl (by decide) rfl (fun ls hl => ?_)
  refine lv_aload_n hx hb dL_law_391 rfl (lv_at hl 3 rfl) ?_
  refine l_arg (k := 1) G hS1 (lv_at hl 1 rfl) (lv_at hl 5 rfl) hi (by decide) (by decide) dL_law_392 dL_law_393 dL_law_395 dL_law_396 dL_law_397 ?_
  refine l_arg (k := 2) G hS1 (lv_at hl 1 rfl) (lv_at hl 5 rfl) hi (by decide) (by decide) dL_law_398 dL_law_399 dL_law_401 dL_law_402 dL_law_403 ?_
  have keep : ∀ {H2 : Heap}, (∀ q : Nat, q < H1.size → ¬ fA (wM w) q → H2[q]? = H1[q]?) → H2[w.2.2.1 221]? = some (vp_cell (w.2.1 2) (1, .inr (.inl f))) := fun hk2 => (hk2 _ (Array.getElem?_eq_some_iff.mp hB2).1 (fun q => by
    have := fA_M hAD q
    rw [hAD 221 (by omega)] at this
    omega)).trans hB2
  have hAM : ∀ q, fA (wM w) q → s.heap.size ≤ q := fun q h => by have := fA_M hAD h; omega
  refine va_calli (callV_run (w := wM w) (As := [.int (xs (i + 1)), .int (xs (i + 2))]) (rest := []) G.2.1 hl hPM1 (l_old hS1 h0 _) ⟨show 181 ≤ 181 by decide, show 181 < 221 by decide⟩ (by decide +kernel) (m_X11_thing l (wM w) (hAD.J (by decide)) rfl 181 (xs (i + 1)) (xs (i + 2)) (by decide +kernel) ν f2) mv_L_44 ⟨rfl, rfl, by decide, by decide⟩ rfl rfl (Nat.le_of_ble_eq_true rfl) hz1 dL_law_404) hS1 (fun q _ h => hAM q h) hAM ?_
  intro r2 u2 t2 H2 locs2 ht2 _ hp2 hBB hz2 hk2' hS2
  have hPM2 : fP (wM w) ν1 H2 := by rw [← ht2]; exact hBB.1
  have hPC2 : fP (wC w) μ1 H2 := (keepM hAD hz2 hk2' hB1 ho1).1
  have hf2 := keep hk2'
  rw [hp2]
  refine lv_istore (lv' := [(6, .int r), (5, .int (nI k)), (0, .ref b), (1, .ref (w.2.2.1 0)), (2, .ref (w.2.2.1 181)), (3, .ref (w.2.2.1 221)), (4, .int (nI i))]) hx hb dL_law_407 hl (by decide) rfl (fun ls hl => ?_)
  refine lv_aload_n hx hb dL_law_409 rfl (lv_at hl 4 rfl) ?_
  refine va_calli (callV_run (w := wM w) (As := []) (rest := []) G.2.1 hl hPM2 (l_old hS2 h0 _) ⟨show 181 ≤ 181 by decide, show 181 < 221 by decide⟩ (by decide +kernel) (m_X11_thrown l (wM w) (hAD.J (by decide)) rfl 181 (by decide +kernel) ν1 (r := ν1.1 181 0) (μr := ν1) rfl) mv_L_45 ⟨rfl, rfl, by decide, by decide⟩ rfl rfl (Nat.le_of_ble_eq_true rfl) hz1 dL_law_410) hS2 (fun q _ h => hAM q h) hAM ?_
  intro r3 u3 t3 H3 locs3 ht3 _ hp3 hBC hz3 hk3 hS3
  have hPM3 : fP (wM w) ν1 H3 := by rw [← ht3]; exact hBC.1
  have hPC3 : fP (wC w) μ1 H3 := (keepM hAD hz3 hk3 hPC2 ⟨f, hf2⟩).1
  have hf3 : H3[w.2.2.1 221]? = some (vp_cell (w.2.1 2) (1, .inr (.inl f))) := (hk3 _ (Array.getElem?_eq_some_iff.mp hf2).1 (fun q => by
    have := fA_M hAD q
    rw [hAD 221 (by omega)] at this
    omega)).trans hf2
  rw [hp3, hth]
  refine lv_iload hx hb dL_law_413 (lv_at hl 1 rfl) ?_
  refine lv_icmp_eq (tgt := 420) hx hb dL_law_415 rfl (fun _ => ?_) (fun c9 => absurd rfl c9)
  have hlf : lv_has ls 7 [(0, .ref b), (1, .ref (w.2.2.1 0)), (2, .ref (w.2.2.1 181)), (3, .ref (w.2.2.1 221)), (4, .int (nI i))] := lv_sub hl [2, 3, 4, 5, 6] rfl
  have fin : W p l e room_1 s m #[Value.ref b] below meth c H3 locs3 (cl + 1) (sl + 6) (lw_Z below #[Value.ref b] s) (F0 m 437 ls []) := by
    refine lv_goto (tgt := 1540) hx hb dL_law_437 rfl ?_
    exact l_next4 G next hR hPC3 hPM3 ⟨f, hf3⟩ hS3 hlf (by omega) (by omega)
  refine lv_iload hx hb dL_law_420 (lv_at hl 1 rfl) ?_
  refine lv_if_ne (tgt := 437) hx hb dL_law_422 rfl (fun _ => fin) (fun c0 => ?_)
  have k0 : k = 0 := (nI_eq (b := 0) (by omega) (by decide)).mp c0
  have fr := hB3 k0
  refine lv_aload_n hx hb dL_law_425 rfl (lv_at hl 5 rfl) ?_
  refine lv_iconst (v := 0) hx hb dL_law_426 (by decide) ?_
  refine W.lald (v := .long (f 0)) hx hb hf3 ((hK.2 2 _ rfl).1 1 (fun j => .long (f j))) (fun q => by cases q) (by show ¬ ((0 : Int32) < 0 ∨ (arrV _ _ _).slots.size ≤ _); rw [arrV_size]; exact (show ¬ ((0 : Int32) < 0 ∨ 1 ≤ (0 : Int32).toNatClampNeg) by decide)) (by show (arrV _ _ _).slots[_]? = _; rw [arrV_read _ _ (show (0 : Int32).toNatClampNeg < 1 by decide)]; rfl) rfl rfl dL_law_427 ?_
  refine lv_iload hx hb dL_law_428 (lv_at hl 0 rfl) ?_
  refine lv_i2l hx hb dL_law_430 rfl ?_
  refine W.lcmp hx hb dL_law_431 ?_
  rw [fr, lg_cmp_self]
  exact lv_if_eq (tgt := 437) hx hb dL_law_432 rfl (fun _ => fin) (fun c9 => absurd rfl c9)
