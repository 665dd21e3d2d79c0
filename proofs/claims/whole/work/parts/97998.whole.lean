/-! from the entry to the end; the claim -/
theorem lw_off {l : Launch} (h : l.flags = flags0) : l.stackTraces = false := by
  unfold Launch.stackTraces
  rw [h]
  decide
set_option maxHeartbeats 4000000 in
set_option maxRecDepth 100000 in
theorem whole_start {p : Program} {e : Env} {s : State} {m : MethodId} {below : List Frame} {meth : Method} {c : Code} (l : Launch) (hl0 : l.stackTraces = false) {b L : Nat} {xs : Nat → Int32} (hL : L ≤ 3072) (C0 : lw_At p s m meth c b L xs) : W p l e room_1 s m #[Value.ref b] below meth c s.heap [] 0 0 (lw_Z below #[Value.ref b] s) (entryFrame m ([Value.ref b] : List Value).toArray 7) := by
  obtain ⟨hx, hb, hr, hml, hown, htl, hXs, hbl, hlk, hgv⟩ := id C0
  obtain ⟨w, hAD, h0, hK, hT, hX, hNs⟩ := start_W htl hgv
  have hts : ∀ x ∈ gw, x.before #[Value.ref b] s = true := fun x hx => htl x (List.mem_filter.mp hx).1
  have C : Cw p s m #[Value.ref b] meth c code 7 RL w := ⟨hx, hb, hml, hown, hts, hK, hAD, hlk, hT, hNs⟩
  have G : LG p s m b meth c w L xs := ⟨⟨hx, hb, hml, hown, hts, hK, hAD.J (by decide), hlk, hT⟩, ⟨hx, hb, hml, hown, hts, hK, hAD.J (by decide), hlk, hT⟩, hXs, hbl, hAD, h0, hL⟩
  have hG : ∀ q, s.heap.size ≤ q → fG w q := fun q h => by show w.2.2.1 0 ≤ q; rw [h0]; exact h
  have hU : ∀ n q, n ≤ 221 → w.2.2.1 n ≤ q → s.heap.size ≤ q := fun n q hn h => by rw [← h0]; exact hAD.up (Nat.zero_le n) hn h
  have hl := lv_entry ([.ref b]) (n := 7) (Nat.le_of_ble_eq_true rfl)
  rw [lg_entry_eq]
  generalize (lg_sl ([.ref b]) ++ List.replicate (7 - (lg_sl ([.ref b])).length) Slot.unset).toArray = ls at hl ⊢
  have hl : lv_has ls 7 [(0, .ref b)] := hl
  have hS : va_S (fun q : Nat => s.heap.size ≤ q) s.heap s.heap [] := va_S.rf
  obtain ⟨z0, hz0⟩ : ∃ z : Nat → Nat → Bool, z = fun _ _ => false := ⟨_, rfl⟩
  obtain ⟨M0, hM0⟩ : ∃ M : fMem, M = (fun _ _ => 0, fun _ _ => 0, fun _ _ => 0) := ⟨_, rfl⟩
  have hZ : Z0 0 M0 z0 := fun a _ => by subst hz0 hM0; exact ⟨rfl, rfl, rfl⟩
  have hP : fP (wz w 0 0 z0) M0 s.heap := fP_iff.mpr (fun k hk => absurd hk.2 (Nat.not_lt_zero _))
  refine b_new C hP hS h0.symm (by decide) (ci := 10) (N := 13) (by decide +kernel) rfl nl_L_8 (hZ 0 (Nat.le_refl _)).1 (hZ 0 (Nat.le_refl _)).2.1 (hZ 0 (Nat.le_refl _)).2.2 (by decide) (by decide) dL_law_0 (fun H hP hS hsz _ => ?_)
  refine lv_dup hx hb dL_law_3 rfl ?_
  refine b_init (rest := [.ref (w.2.2.1 0)]) C hl hP (by decide) (by decide) hS (fun q h => hU 0 q (by decide) h) hG hsz (Or.inl il_L_17) (k_X10 l w hAD 0 (by decide +kernel) z0 M0 hZ) ⟨rfl, rfl, by decide, by decide⟩ (Nat.le_of_ble_eq_true rfl) ⟨by decide, by decide⟩ dL_law_4 (fun H locs hP _ hS hsz => ?_)
  have hZ : Z0 181 (mg M0 ini 0 181) (zm z0 0 181) := (hZ.mono (by decide)).mg (by decide)
  have hP : fP (wz w 0 181 (zm z0 0 181)) (mg M0 ini 0 181) H := hP
  have hsz : H.size = w.2.2.1 181 := hsz
  refine lv_astore_n (lv' := [(1, .ref (w.2.2.1 0)), (0, .ref b)]) hx hb dL_law_7 rfl hl (by decide) rfl (fun ls hl => ?_)
  refine b_new C hP hS hsz (by decide) (ci := 11) (N := 65) (by decide +kernel) rfl nl_L_18 (hZ 181 (Nat.le_refl _)).1 (hZ 181 (Nat.le_refl _)).2.1 (hZ 181 (Nat.le_refl _)).2.2 (by decide) (by decide) dL_law_8 (fun H hP hS hsz _ => ?_)
  refine lv_dup hx hb dL_law_11 rfl ?_
  refine b_init (rest := [.ref (w.2.2.1 181)]) C hl hP (by decide) (by decide) hS (fun q h => hU 181 q (by decide) h) hG hsz (Or.inl il_L_20) (k_X11 l w hAD 181 (by decide +kernel) (zm z0 0 181) (mg M0 ini 0 181) hZ) ⟨rfl, rfl, by decide, by decide⟩ (Nat.le_of_ble_eq_true rfl) ⟨by decide, by decide⟩ dL_law_12 (fun H locs hPn hPo hS hsz => ?_)
  have hPM : fP (wM w) ini H := mg_ini (by decide) hPn
  have hPC : fP (wC w) ini H := mg_ini (by decide) hPo
  have hsz : H.size = w.2.2.1 221 := hsz
  refine lv_astore_n (lv' := [(2, .ref (w.2.2.1 181)), (1, .ref (w.2.2.1 0)), (0, .ref b)]) hx hb dL_law_15 rfl hl (by decide) rfl (fun ls hl => ?_)
  refine lv_iconst (v := 1) hx hb dL_law_16 (by decide) ?_
  refine va_newaK hx hb (hts _ ac_L) rfl dL_law_17 rfl (by decide) (N := 1) (by decide) (by decide) (by decide) (by decide) hsz fun H1 cA e1 z1 o1 hAr hNm => ?_
  have hc2 : cA = w.2.1 2 := Option.some.inj (hNm.symm.trans (hK.2 2 _ rfl).2)
  have hlt : ∀ q, q < H.size → H1[q]? = H[q]? := fun q hq => o1 q (by rw [← hsz]; exact hq)
  have hPM1 : fP (wM w) ini H1 := fP_kept hPM (fun k h1 h2 => hlt _ (fP_lt hPM h1 h2))
  have hPC1 : fP (wC w) ini H1 := fP_kept hPC (fun k h1 h2 => hlt _ (fP_lt hPC h1 h2))
  have ho : LO w H1 := ⟨fun _ => 0, by rw [← hc2]; exact e1⟩
  have hS1 : va_S (fun q : Nat => s.heap.size ≤ q) s.heap H1 locs := ⟨Nat.le_trans hS.1 (by rw [z1, hsz]; omega), fun q h1 h2 => (hlt q (Nat.lt_of_lt_of_le h1 hS.1)).trans (hS.2.1 q h1 h2), hS.2.2⟩
  refine lv_astore_n (lv' := [(3, .ref (w.2.2.1 221)), (2, .ref (w.2.2.1 181)), (1, .ref (w.2.2.1 0)), (0, .ref b)]) hx hb dL_law_19 rfl hl (by decide) rfl (fun ls hl => ?_)
  refine lv_iconst (v := 0) hx hb dL_law_20 (by decide) ?_
  refine lv_istore (lv' := [(4, .int 0), (3, .ref (w.2.2.1 221)), (2, .ref (w.2.2.1 181)), (1, .ref (w.2.2.1 0)), (0, .ref b)]) hx hb dL_law_21 hl (by decide) rfl (fun ls hl => ?_)
  exact law_loop hl0 hX G hr hlk (L + 1) 0 (by omega) (by omega) ini ini H1 locs ls _ _ ⟨Rel0, hPC1, hPM1, ho, hS1, lv_sub hl [4, 3, 2, 1, 0] rfl, by decide, by decide⟩
set_option maxHeartbeats 4000000 in
theorem lw_walk (l : Launch) (hl0 : l.stackTraces = false) (b : Addr) (xs : List Int32) : MetFree l x (headSpec (Jvm.Cond.code x code maxLocals ret :: tables_1) room_1) (lw_P b xs) (fun _ _ _ _ _ => True) lw_Q := by
  refine MetFree.of_bodyS (code := code) (maxLocals := maxLocals) (ret := ret) (by decide) ?_ ?_
  · intro args s m h hn
    obtain ⟨meth, c, h1, h2, h3, h4, h5, h6, -, -⟩ := Cond.code_spec hn (atoms_spec (ws := Jvm.Cond.code x code maxLocals ret :: tables_1) h _ List.mem_cons_self)
    exact ⟨meth, c, h1, h2, h3, h4, h5, h6⟩
  · intro p e s m args below meth c s₁ B hml0 hP _
    obtain ⟨rfl, hx, hbd, hgv⟩ := hP
    obtain ⟨scr, harrAt, hlist, hof, hsmall⟩ := hx
    obtain ⟨hcb, hkn, -, -⟩ := State.arrayAt?_spec harrAt
    have hown : s.vm.findClass R_law = some m.cls := findClass_of_methodNamed B.named
    have hts0 : ∀ c ∈ (Jvm.Cond.code x code maxLocals ret :: tables_1), c.before #[Value.ref b] s = true := atoms_spec (ws := Jvm.Cond.code x code maxLocals ret :: tables_1) B.pre
    have hts : ∀ w ∈ lw_tbl, w.before #[Value.ref b] s = true := k2_hts_sels lw_privs (fun w hw => hts0 w (List.mem_cons_of_mem _ hw)) lw_privs_ok
    have hml : c.maxLocals = 7 := B.maxLocals_eq (hts0 _ List.mem_cons_self)
    have X₀ : Stand p l e room_1 s m #[Value.ref b] below meth c s₁ [] 0 0 := Stand.of_body B
    have hh0 : s₁.heap = s.heap := by rw [B.state]; rfl
    have hsz : scr.slots.size = xs.length := by rw [← Array.length_toList, hlist, List.length_map]
    have hval : ∀ j : Nat, j < xs.length → scr.slots[j]? = some (.int (xs.getD j 0)) := fun j hj => by
      rw [← Array.getElem?_toList, hlist]
      simp [hj]
    have hbl : b < s.heap.size := (Array.getElem?_eq_some_iff.mp hcb).1
    have hX : va_X b xs.length (fun j => xs.getD j 0) s s.heap := ⟨scr, hcb, hof, hkn, hsz, hval⟩
    have K : W p l e room_1 s m #[Value.ref b] below meth c s₁.heap [] 0 0 (lw_Z below #[Value.ref b] s) (entryFrame m ([Value.ref b] : List Value).toArray 7) := by
      rw [hh0]
      exact whole_start l hl0 hbd ⟨B.exec, B.bytes, B.returns, hml, hown, hts, hX, hbl, B.notSynchronized, hgv⟩
    obtain ⟨t, a1, o, b1, b2, b3⟩ := K s₁ rfl X₀
    exact ⟨t, o, a1, b1, b2, b3⟩
theorem lw_pre_spec {args : Array Value} {s : State} (h : (Jvm.Cond.and given_1 narrow_1).before args s = true) (hr : rest_1_c.before args s = true) : ∃ (b : Addr) (xs : List Int32), lw_P b xs args s := by
  have hs := flat_of_before _ h
  have hq := flat_of_before _ hr
  have hc : (Cond.count 1).before args s = true := hs _ (by decide +kernel)
  have harr : (Cond.arrayOf (.arg 0) .int).before args s = true := hs _ (by decide +kernel)
  have hle : (Cond.le (.length (.arg 0)) (.int 3072)).before args s = true := hs _ (by decide +kernel)
  have hlen : (Cond.isInt (.length (.arg 0))).before args s = true := hq _ (by decide +kernel)
  have hall : (Cond.all (.arg 0) (.isInt (.elem (.arg 0) (.index 0)))).before args s = true := hq _ (by decide +kernel)
  obtain ⟨b, xs, hb, hx⟩ := State.ints_of_pre rfl harr hlen hall
  have hsm : xs.length < 2 ^ 31 := hx.choose_spec.2.2.2
  have hev : (Term.length (.arg 0)).eval args s none [] s = some (.int xs.length.toInt32) := hx.length_eval hb
  have hv := Cond.le_ints hev (show (Term.int 3072).eval args s none [] s = some (.int 3072) from rfl)
  have hd : xs.length.toInt32 ≤ 3072 := by
    simpa [Cond.before, Cond.holds, hv] using hle
  have hN : xs.length ≤ 3072 := (Int32.ofNat_le_ofNat hsm (by decide)).mp (show Int32.ofNat xs.length ≤ Int32.ofNat 3072 from hd)
  exact ⟨b, xs, Cond.one_arg hc (show args[0]? = some (.ref b) from hb), hx, hN, h⟩
theorem lw_comes (l : Launch) (hl0 : l.stackTraces = false) : Comes l x (Jvm.Cond.code x code maxLocals ret :: tables_1) room_1 (fun tb e args s => Calls_1 tb e args s ∧ rest_1 tb e args s ∧ Pre_1 tb e args s)
    (fun _ _ args s o t => lw_Q args s o t) := by
  intro p e ha hc hk s m args below hf hfit hheap happ hpre
  obtain ⟨b, xs, hP⟩ := lw_pre_spec hpre.2.2 hpre.2.1
  obtain ⟨k, o, h1, h2, h3, hQ⟩ := lw_walk l hl0 b xs p e ha hc hk s m args below hf ((Spec.applies_iff_loose hf).mp happ).1 hP trivial
  exact ⟨k, o, h1, h2, h3, hQ⟩
theorem lw_frame {s t : State} {o : Outcome} {args : Array Value} (h : Framed s o t [] 601024 7293034) :
    Framed s o t (fieldLocs frame_1_writes args s ++ arrayLocs frame_1_arrays args s ++ staticLocs frame_1_statics s) 601024 7293034 := h
theorem lw_limb (L : Cond) (hL : ∀ (args : Array Value) (s t : State), L.after args s (.returned (some (.int 1))) t = true) :
    ArmFor flags0 classFile x code maxLocals ret World_1 tables_1 room_1 Calls_1 rest_1 Pre_1
      (fun tb e a s o t => postC L tb e a s o t ∧ Framed s o t (fieldLocs frame_1_writes a s ++ arrayLocs frame_1_arrays a s ++ staticLocs frame_1_statics s) 601024 7293034) := by
  intro l hfl _ _ p e ha hc hk s m args below hf hfit hheap happ hpre
  obtain ⟨k, o, h1, h2, h3, rfl, hF⟩ := lw_comes l (lw_off hfl) p e ha hc hk s m args below hf hfit hheap happ hpre
  exact ⟨k, _, h1, h2, h3, hL args s _, lw_frame hF⟩
theorem i_vc : Claimed_1_1 ∧ Claimed_1_2 := ⟨lw_limb limb_1_1 (fun args s t => by simp [limb_1_1, Cond.after, Cond.holds, Cond.value]), lw_limb limb_1_2 (fun args s t => Cond.after_iff.mpr (by
  first | (rw [show limb_1_2 = Cond.eq .result (.int 1) from rfl, Cond.eq_ints (x := 1) (y := 1) rfl rfl]; simp; done) | (simp [limb_1_2, Cond.value, Term.eval]; done)))⟩
