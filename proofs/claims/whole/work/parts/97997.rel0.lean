/-! the first memories; rows of the law's own objects -/
def V0 : HV := (fun _ => 0, fun _ _ => 0, fun _ _ => false, fun _ => [])
theorem HW0 : HW V0 := ⟨Nat.zero_le _, Nat.zero_le _, Nat.zero_le _, Nat.zero_le _, Nat.zero_le _, Nat.zero_le _, fun t ht => absurd ht (Nat.not_lt_zero _), fun t ht => absurd ht (Nat.not_lt_zero _), fun t ht => absurd ht (Nat.not_lt_zero _), fun k hk => ⟨Nat.zero_le _, fun k h => absurd h (List.not_mem_nil), Or.inl rfl⟩, fun i hi _ k hk => absurd hk (List.not_mem_nil), fun _ _ => rfl, fun a b (h : false = true) => (nomatch h)⟩
def X0 : RX := (none, [], (0, fun _ _ => 0, -1), (0, fun _ => 0), (0, -1))
theorem XW0 : XW V0 X0 := ⟨fun I (hI : none = some I) => (nomatch hI), ⟨Nat.zero_le _, fun p hp => absurd hp (List.not_mem_nil)⟩, ⟨Nat.zero_le _, Or.inl rfl, fun k hk => absurd hk (Nat.not_lt_zero _)⟩, Nat.zero_le _, fun j hj => absurd hj (Nat.not_lt_zero _)⟩
theorem RC0 : RC ini V0 (S0 V0) X0 2 := by
  refine ⟨Or.inl rfl, rfl, rfl, ⟨fun w hw => rfl, rfl, fun t ht => absurd ht (Nat.not_lt_zero _), fun t ht => absurd ht (Nat.not_lt_zero _), fun t ht => absurd ht (Nat.not_lt_zero _), fun w hw j hj => absurd hj (Nat.not_lt_zero _), fun a b ha hb => ⟨fun _ => rfl, fun _ => ?_⟩, ⟨rfl, fun i hi => absurd hi (Nat.not_lt_zero _)⟩, ⟨rfl, fun i hi => absurd hi (Nat.not_lt_zero _)⟩, ⟨rfl, fun i hi => absurd hi (Nat.not_lt_zero _)⟩, rfl⟩, ⟨fun j hj => absurd hj (Nat.not_lt_zero _), fun j hj => rfl, fun j hj => rfl, fun j hj => rfl, fun j hj => rfl, rfl, rfl, fun j _ hj => ?_⟩, fun d t hd => absurd hd (Nat.not_lt_zero _), rfl, ⟨rfl, trivial⟩, ⟨rfl, rfl, fun k hk => absurd hk (Nat.not_lt_zero _)⟩, ⟨rfl, fun j hj => absurd hj (Nat.not_lt_zero _)⟩, rfl, rfl, fun j hj => ?_⟩
  · show (0 : Int32) &&& _ = 0
    exact Int32.zero_and
  · show (if j < 8 then (-1 : Int32) else 0) = -1
    rw [if_pos hj]
  · show (if j < 20 then lwT j else 0) = lwT j
    rw [if_pos hj]
theorem ML0 (k : Nat) : ML ini k [] := ⟨0, rfl, rfl, Nat.zero_le _, fun i hi => absurd hi (Nat.not_lt_zero _)⟩
theorem RM0 : RM ini V0 (S0 V0) X0 := by
  refine ⟨⟨fun w hw => rfl, rfl, fun t ht => absurd ht (Nat.not_lt_zero _), fun t ht => absurd ht (Nat.not_lt_zero _), fun t ht => absurd ht (Nat.not_lt_zero _), fun t ht => absurd ht (Nat.not_lt_zero _), fun t ht => absurd ht (Nat.not_lt_zero _), fun t ht => absurd ht (Nat.not_lt_zero _), fun a b ha hb => ⟨fun (h : false = true) => (nomatch h), fun ⟨k, hk, _⟩ => absurd hk (Nat.not_lt_zero _)⟩, ML0 0, ML0 1, ML0 2⟩, ⟨fun j hj => absurd hj (Nat.not_lt_zero _), fun j hj => rfl, fun j hj => rfl, fun j hj => rfl, fun j hj => rfl, ?_, rfl⟩, ⟨rfl, rfl, rfl, rfl⟩, rfl, ⟨rfl, trivial⟩, ⟨rfl, rfl, fun k hk => absurd hk (Nat.not_lt_zero _)⟩, ⟨rfl, fun j hj => absurd hj (Nat.not_lt_zero _)⟩, rfl, rfl⟩
  rw [if_neg (by decide)]
  rfl
theorem Rel0 : Rel ini ini := ⟨V0, S0 V0, X0, 2, HW0, S0_SR HW0, XW0, RC0, RM0⟩
def Cw (p : Program) (s : State) (m : MethodId) (args : Array Value) (meth : Method) (c : Code) (cc : ByteArray) (nL : Nat) (own : String) (w : fW) : Prop :=
  p.tables.exec = Jvm.exec ∧ c.code = cc ∧ c.maxLocals = nL ∧ s.vm.findClass own = some m.cls ∧ (∀ x ∈ gw, x.before args s = true) ∧ fK w s ∧ fAD w ∧ meth.locks = false ∧ fT w s s.heap ∧ fNs s
section RowsW
variable {p : Program} {l : Launch} {e : Env} {R : Room} {s : State} {m : MethodId} {args : Array Value} {below : List Frame} {meth : Method} {c : Code} {H H0 : Heap} {locs : List Loc} {cells slots : Nat} {Q : State → Prop} {cc : ByteArray} {nL pc : Nat} {own : String} {w : fW} {μ μ' : fMem} {ls : Array Slot} {rest : List Value} {lv : List (Nat × Value)} {A : Nat → Prop} {lo n : Nat} {z : Nat → Nat → Bool}
theorem b_new (C : Cw p s m args meth c cc nL own w) (hP : fP (wz w lo n z) μ H) (hS : va_S A H0 H locs) (hsz : H.size = w.2.2.1 n) (hn : n < 221) {ci idx N : Nat} (hkd : kd n = (4, ci)) (hN : fN ci = N) (hL : NL own idx ci) (h1 : μ.1 n = fun _ => 0) (h2 : μ.2.1 n = fun _ => 0) (h3 : z n = fun _ => false) (hc : cells + 1 ≤ R.cells) (hs : slots + N ≤ R.slots) (hd : decode cc pc = .ok (.new idx, 3))
    (kk : ∀ H1 : Heap, fP (wz w lo (n + 1) z) μ H1 → va_S A H0 H1 locs → H1.size = w.2.2.1 (n + 1) → (∀ q, q < H.size → H1[q]? = H[q]?) → W p l e R s m args below meth c H1 locs (cells + 1) (slots + N) Q (F0 m (pc + 3) ls (.ref (w.2.2.1 n) :: rest))) : W p l e R s m args below meth c H locs cells slots Q (F0 m pc ls rest) := by
  obtain ⟨hx, hb, -, hown, hts, hK, hAD, -, -, -⟩ := C
  obtain ⟨q, hq, hqn, l1, l2, l3, hin, ty0, hty, hdef⟩ := hL
  have hKn := hK.1 ci _ hq
  refine W.newcK hx hb hown (hts _ l1) (hts _ l2) (hts _ l3) rfl hd hc (by rw [hqn, hN]; exact hs) hKn.2.1 hsz fun H1 kC hkC e1 z1 o1 => ?_
  rw [hqn, hN]
  refine kk H1 (fP_next hP hAD hn hsz (fun q hq => o1 q (by rw [← hsz]; exact hq)) ?_) ⟨Nat.le_trans hS.1 (by rw [z1, hsz]; omega), fun x g1 g2 => (o1 x (by rw [← hsz]; exact Nat.lt_of_lt_of_le g1 hS.1)).trans (hS.2.1 x g1 g2), hS.2.2⟩ (by rw [z1, hAD n (by omega), hAD (n + 1) (by omega)]; omega) (fun q hq => o1 q (by rw [← hsz]; exact hq))
  rw [cellE_4 hkd]
  refine ⟨q, hq, (u_born ty0 hts hin hKn hkC e1 hty).to (fun j hj => ?_)⟩
  rw [hdef j hj]
  have hg : (flds w.2.2.1 z μ n ci)[j]? = some (fval w.2.2.1 z μ n ci j) := flds_get (by rw [← hqn]; exact hj)
  have hv : vp_V (flds w.2.2.1 z μ n ci) j = fval w.2.2.1 z μ n ci j := by simp [vp_V, hg]
  show _ = vp_V (flds w.2.2.1 z μ n ci) j
  rw [hv]
  unfold fval
  rw [h1, h2, h3]
  generalize ft ci j = t
  rcases t with _ | _ | _ | _ | t <;> rfl
end RowsW
section RowsW2
variable {p : Program} {l : Launch} {e : Env} {R : Room} {s : State} {m : MethodId} {args : Array Value} {below : List Frame} {meth : Method} {c : Code} {H H0 : Heap} {locs : List Loc} {cells slots : Nat} {Q : State → Prop} {cc : ByteArray} {nL pc : Nat} {own : String} {w : fW} {μ ν : fMem} {ls : Array Slot} {rest : List Value} {lv : List (Nat × Value)} {A : Nat → Prop} {lo n : Nat} {z z' : Nat → Nat → Bool}
variable {y : MethodName} {cy : ByteArray} {mL mc ms e' : Nat} {rm : Room}
theorem b_init (C : Cw p s m args meth c cc nL own w) (hl : lv_has ls nL lv) (hP : fP (wz w lo (n + 1) z) μ H) (hlo : lo ≤ n) (hn : n < 221) (hS : va_S A s.heap H locs) (hA : ∀ q, w.2.2.1 n ≤ q → A q) (hAG : ∀ q, A q → fG w q) (hsz : H.size = w.2.2.1 (n + 1)) {idx : Nat} (hL : IL own idx y cy mL ∨ IN own idx y cy mL) (hM : Met l y (.code y cy mL none :: gw) rm (cPc w n z μ) (cQ w n e' z' ν) mc ms (fun q => w.2.2.1 n ≤ q))
    (hR : rm.cells = mc ∧ rm.slots = ms ∧ rm.frames + 1 ≤ R.frames ∧ 8 + (mL + 11) + rm.locals ≤ R.locals) (hc : (rest.map fun v => v.category).sum ≤ 8) (hz : cells + mc ≤ R.cells ∧ slots + ms ≤ R.slots) (hd : decode cc pc = .ok (.invokespecial idx, 3))
    (kk : ∀ (H1 : Heap) (locs1 : List Loc), fP (wz w n e' z') ν H1 → fP (wz w lo n z) μ H1 → va_S A s.heap H1 locs1 → H1.size = w.2.2.1 e' → W p l e R s m args below meth c H1 locs1 (cells + mc) (slots + ms) Q (F0 m (pc + 3) ls rest)) : W p l e R s m args below meth c H locs cells slots Q (F0 m pc ls (.ref (w.2.2.1 n) :: rest)) := by
  obtain ⟨hx, hb, hml, hown, hts, hK, hAD, -, hT, hNs⟩ := C
  have hpre : PreS s H (cPc w n z μ) (.ref (w.2.2.1 n) :: []) := ⟨cPc_blind, fun U hU hW => ⟨rfl, by rw [hU]; exact fP_cut hP hlo (Nat.le_refl _), by rw [hU]; exact hsz, va_K.moved hW.alike hK, by rw [hU]; exact hT.warm hW (fun a h1 h2 => hS.2.1 a h1 (fun q => h2 (hAG a q))), hNs.warm hW⟩⟩
  have hrun : va_Run p l e R s m args below meth c H locs cells slots mc ms (F0 m pc ls (.ref (w.2.2.1 n) :: rest)) rest (cQ w n e' z' ν (Value.ref (w.2.2.1 n) :: []).toArray) (fun q => w.2.2.1 n ≤ q) := by
    rcases hL with ⟨m1, m2, m3, m4, m5, m6, m7, m8⟩ | ⟨m1, m2, m3, m4, m5, m6, m7, m8⟩
    · exact va_runI (As := []) (rest := rest) ⟨hx, hb, hml, hown, hts⟩ hM ⟨callB_of 0 hts (goodY (x := Cond.code y cy mL none) m2) rfl hR.1 hR.2.1 (hts _ m3) (hts _ m1) ⟨m6, m7, m8⟩ hR.2.2, m5, hts _ m4⟩ hpre rfl rfl hl.1 rfl (lv_room hc) hd hz
    · exact va_runIN (As := []) (rest := rest) ⟨hx, hb, hml, hown, hts⟩ hM ⟨va_cnB 0 hts (goodY (x := Cond.code y cy mL none) m2) rfl hR.1 hR.2.1 (hNs.1 _ m1) (hts _ m3) ⟨m6, m7, m8⟩ hR.2.2, m5, hts _ m4⟩ hpre rfl rfl hl.1 rfl (lv_room hc) hd hz
  refine va_callv hrun hS (fun q _ h => hA q h) (fun q h => hA q h) (fun u t H1 locs1 ht _ hp hB hz1 hk1 hS1 => ?_)
  have hB1 : fP (wz w n e' z') ν H1 := by rw [← ht]; exact hB.1
  refine kk H1 locs1 hB1 (fP_kept (fP_cut hP (Nat.le_refl _) (Nat.le_succ n)) (fun k h1 h2 => hk1 _ ?_ ?_)) hS1 (by rw [← ht]; exact hB.2.1)
  · rw [hsz, hAD k (by omega), hAD (n + 1) (by omega)]
    omega
  · show ¬ w.2.2.1 n ≤ w.2.2.1 k
    rw [hAD k (by omega), hAD n (by omega)]
    omega
end RowsW2
theorem nl_L_8 : NL RL 8 10 := ⟨(RX10, TX10, 13), rfl, rfl, gwm (by decide +kernel) rfl, gwm (by decide +kernel) rfl, gwm (by decide +kernel) rfl, iu_X10, tyX10, tyX10_ok, by decide +kernel⟩
theorem nl_L_18 : NL RL 18 11 := ⟨(RX11, TX11, 65), rfl, rfl, gwm (by decide +kernel) rfl, gwm (by decide +kernel) rfl, gwm (by decide +kernel) rfl, iu_X11, tyX11, tyX11_ok, by decide +kernel⟩
theorem il_L_17 : IL RL 17 yX10_init cX10_init 1 := ⟨gwm (by decide +kernel) rfl, gwm (by decide +kernel) rfl, gwm (by decide +kernel) rfl, gwm (by decide +kernel) rfl, rfl, by decide, by decide, by decide +kernel⟩
theorem il_L_20 : IL RL 20 yX11_init cX11_init 1 := ⟨gwm (by decide +kernel) rfl, gwm (by decide +kernel) rfl, gwm (by decide +kernel) rfl, gwm (by decide +kernel) rfl, rfl, by decide, by decide, by decide +kernel⟩
theorem ac_L : Cond.arrayClass (newarray.typeOf .long) ∈ gw := gwm (by decide +kernel) rfl
theorem mg_ini {w : fW} {lo e : Nat} {M : fMem} {z : Nat → Nat → Bool} {H : Heap} (he : e ≤ 221) (h : fP (wz w lo e (zm z lo e)) (mg M ini lo e) H) : fP (wz w lo e (fun _ _ => true)) ini H := by
  refine fP_congr he h (fun k h1 h2 => ⟨?_, ?_, fun ci _ j _ _ => ⟨?_, fun _ => ?_⟩⟩)
  · show (if lo ≤ k ∧ k < e then ini.1 k else M.1 k) = _
    rw [if_pos ⟨h1, h2⟩]
  · show (if lo ≤ k ∧ k < e then ini.2.1 k else M.2.1 k) = _
    rw [if_pos ⟨h1, h2⟩]
  · show (if lo ≤ k ∧ k < e then true else z k j) = true
    rw [if_pos ⟨h1, h2⟩]
  · show (if lo ≤ k ∧ k < e then ini.2.2 k else M.2.2 k) j = _
    rw [if_pos ⟨h1, h2⟩]
