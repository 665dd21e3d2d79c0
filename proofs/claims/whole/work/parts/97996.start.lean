/-! the start: the world that the law's body builds in -/
theorem arr_of {args : Array Value} {s : State} {ty : FieldType} (h : (Cond.arrayClass ty).before args s = true) : ∃ cA, ArrOfT s cA ty ∧ s.vm.findClass ("[" ++ ty.toString) = some cA := by
  obtain ⟨c, k, comp, h1, h2, h3⟩ := Cond.arrayClass_spec (args := args) (first := s) (o := none) (idx := []) h
  exact ⟨c, fun n z => ⟨fun k h => (by cases h), k, h2, comp, h3⟩, h1⟩
theorem arr_ov {args : Array Value} {s : State} (h : (Cond.arrayOver (.array .int)).before args s = true) : ∃ cA, ArrOfT s cA (.array .int) ∧ s.vm.findClass ("[" ++ (FieldType.array .int).toString) = some cA := by
  obtain ⟨comp, c, k, h0, h2, h3, h1⟩ := Cond.arrayOver_specA (args := args) (first := s) (o := none) (idx := []) h
  exact ⟨c, fun n z => ⟨fun k h => (by cases h), k, h2, comp, h3⟩, h1⟩
theorem ins_X0 : Cond.instantiable RX0 17 ∈ lw_tbl := by decide +kernel
theorem ins_X1 : Cond.instantiable RX1 10 ∈ lw_tbl := by decide +kernel
theorem ins_X2 : Cond.instantiable RX2 16 ∈ lw_tbl := by decide +kernel
theorem ins_X3 : Cond.instantiable RX3 6 ∈ lw_tbl := by decide +kernel
theorem ins_X4 : Cond.instantiable RX4 8 ∈ lw_tbl := by decide +kernel
theorem ins_X5 : Cond.instantiable RX5 8 ∈ lw_tbl := by decide +kernel
theorem ins_X6 : Cond.instantiable RX6 5 ∈ lw_tbl := by decide +kernel
theorem ins_X7 : Cond.instantiable RX7 7 ∈ lw_tbl := by decide +kernel
theorem ins_X8 : Cond.instantiable RX8 4 ∈ lw_tbl := by decide +kernel
theorem ins_X9 : Cond.instantiable RX9 11 ∈ lw_tbl := by decide +kernel
theorem ins_X10 : Cond.instantiable RX10 13 ∈ lw_tbl := by decide +kernel
theorem ins_X11 : Cond.instantiable RX11 65 ∈ lw_tbl := by decide +kernel
theorem start_K {args : Array Value} {s : State} (htl : ∀ x ∈ lw_tbl, x.before args s = true) : ∃ (D : va_G) (cA : Nat → ClassId), va_K D vwCl [(cA 0, .int), (cA 1, .boolean), (cA 2, .long), (cA 3, .array .int)] s := by
  have hts : ∀ x ∈ gw, x.before args s = true := fun x hx => htl x (List.mem_filter.mp hx).1
  have key : ∀ (ci : Nat) (q : vw_C), vwCl[ci]? = some q → ∃ (cC : ClassId) (iS : Nat → Nat), u_Kn s q.1 q.2.1 q.2.2 cC iS := by
    intro ci q hq
    match ci, hq with
    | 0, hq => cases hq; exact u_known (n := 17) hts iu_X0 (htl _ ins_X0)
    | 1, hq => cases hq; exact u_known (n := 10) hts iu_X1 (htl _ ins_X1)
    | 2, hq => cases hq; exact u_known (n := 16) hts iu_X2 (htl _ ins_X2)
    | 3, hq => cases hq; exact u_known (n := 6) hts iu_X3 (htl _ ins_X3)
    | 4, hq => cases hq; exact u_known (n := 8) hts iu_X4 (htl _ ins_X4)
    | 5, hq => cases hq; exact u_known (n := 8) hts iu_X5 (htl _ ins_X5)
    | 6, hq => cases hq; exact u_known (n := 5) hts iu_X6 (htl _ ins_X6)
    | 7, hq => cases hq; exact u_known (n := 7) hts iu_X7 (htl _ ins_X7)
    | 8, hq => cases hq; exact u_known (n := 4) hts iu_X8 (htl _ ins_X8)
    | 9, hq => cases hq; exact u_known (n := 11) hts iu_X9 (htl _ ins_X9)
    | 10, hq => cases hq; exact u_known (n := 13) hts iu_X10 (htl _ ins_X10)
    | 11, hq => cases hq; exact u_known (n := 65) hts iu_X11 (htl _ ins_X11)
    | k + 12, hq => simp at hq
  have h2 : ∀ ci : Nat, ∃ q : ClassId × (Nat → Nat), ∀ r : vw_C, vwCl[ci]? = some r → u_Kn s r.1 r.2.1 r.2.2 q.1 q.2 := by
    intro ci
    by_cases hh : ∃ r, vwCl[ci]? = some r
    · obtain ⟨r, hr⟩ := hh
      obtain ⟨c, i, k⟩ := key ci r hr
      exact ⟨(c, i), fun r' hr' => by cases hr.symm.trans hr'; exact k⟩
    · exact ⟨(0, fun _ => 0), fun r hr => absurd ⟨r, hr⟩ hh⟩
  obtain ⟨f, hf⟩ := Classical.axiomOfChoice h2
  obtain ⟨c0, a0, b0⟩ := arr_of (htl (.arrayClass .int) (by decide +kernel))
  obtain ⟨c1, a1, b1⟩ := arr_of (htl (.arrayClass .boolean) (by decide +kernel))
  obtain ⟨c2, a2, b2⟩ := arr_of (htl (.arrayClass .long) (by decide +kernel))
  obtain ⟨c3, a3, b3⟩ := arr_ov (htl (.arrayOver (.array .int)) (by decide +kernel))
  refine ⟨(fun c => (f c).1, fun c => (f c).2), fun k => if k = 0 then c0 else if k = 1 then c1 else if k = 2 then c2 else c3, fun c q hq => hf c q hq, ?_⟩
  intro k q hq
  match k, hq with
  | 0, hq => cases hq; exact ⟨a0, b0⟩
  | 1, hq => cases hq; exact ⟨a1, b1⟩
  | 2, hq => cases hq; exact ⟨a2, b2⟩
  | 3, hq => cases hq; exact ⟨a3, b3⟩
  | k + 4, hq => simp at hq
def sAd (n : Nat) (adK adV : Nat → Nat) (t k : Nat) : Nat := if k ≤ 221 then n + k else if k < 1010 then adK (k - 1000) else if k < 1020 then adV (k - 1010) else t
theorem sAd_lo {n t k : Nat} {adK adV : Nat → Nat} (h : k ≤ 221) : sAd n adK adV t k = n + k := if_pos h
theorem sAd_K {n t i : Nat} {adK adV : Nat → Nat} (h : i < 10) : sAd n adK adV t (1000 + i) = adK i := by
  unfold sAd
  rw [if_neg (by omega), if_pos (by omega), show 1000 + i - 1000 = i by omega]
theorem sAd_V {n t i : Nat} {adK adV : Nat → Nat} (h : i < 10) : sAd n adK adV t (1010 + i) = adV i := by
  unfold sAd
  rw [if_neg (by omega), if_neg (by omega), if_pos (by omega), show 1010 + i - 1010 = i by omega]
theorem sAd_t {n t : Nat} {adK adV : Nat → Nat} : sAd n adK adV t 1020 = t := by
  unfold sAd
  rw [if_neg (by omega), if_neg (by omega), if_neg (by omega)]
def nfl : List Cond := flatC (Jvm.Cond.and given_1 narrow_1)
def tmW (i : Nat) : Term := if i = 0 then .string "DeadMonday$Tokens" 46 else .string "DeadMondayModel" 191
def tmM : Term := .static "DeadMonday$Reader" "MOST" "[I"
theorem nm_arr : Cond.arrayOf tmM .int ∈ nfl := by decide +kernel
theorem nm_len : Cond.eq (.length tmM) (.int (Int32.ofNat 6)) ∈ nfl := by decide +kernel
theorem nm_el : ∀ j, j < 6 → Cond.eq (.elem tmM (.int (Int32.ofNat j))) (.int (mostT.getD j 0)) ∈ nfl := by decide +kernel
theorem nw_ex : ∀ i, i < 2 → Cond.exactly (tmW i) "java/lang/String" ∈ nfl := by decide +kernel
theorem nw_co : ∀ i, i < 2 → Cond.eq (.field (tmW i) "java/lang/String" "coder" "B") (.int 0) ∈ nfl := by decide +kernel
theorem nw_ar : ∀ i, i < 2 → Cond.arrayOf (.field (tmW i) "java/lang/String" "value" "[B") .byte ∈ nfl := by decide +kernel
theorem nw_le : ∀ i, i < 2 → Cond.eq (.length (.field (tmW i) "java/lang/String" "value" "[B")) (.int (Int32.ofNat ([120, 100].getD i 0))) ∈ nfl := by decide +kernel
def nwE (i j : Nat) : Cond := Cond.eq (.elem (.field (tmW i) "java/lang/String" "value" "[B") (.int (Int32.ofNat j))) (.int (([wordsB 0, wordsB 1].getD i []).getD j 0))
theorem nw_l0 : (nfl.drop 50).take 120 = (List.range 120).map (nwE 0) := by decide +kernel
theorem nw_l1 : (nfl.drop 210).take 100 = (List.range 100).map (nwE 1) := by decide +kernel
theorem nw_el : ∀ i, i < 2 → ∀ j, j < [120, 100].getD i 0 → nwE i j ∈ nfl := by
  intro i hi j hj
  rcases (show i = 0 ∨ i = 1 by omega) with rfl | rfl
  · have h : nwE 0 j ∈ (List.range 120).map (nwE 0) := List.mem_map.mpr ⟨j, List.mem_range.mpr hj, rfl⟩
    rw [← nw_l0] at h
    exact List.mem_of_mem_drop (List.mem_of_mem_take h)
  · have h : nwE 1 j ∈ (List.range 100).map (nwE 1) := List.mem_map.mpr ⟨j, List.mem_range.mpr hj, rfl⟩
    rw [← nw_l1] at h
    exact List.mem_of_mem_drop (List.mem_of_mem_take h)
theorem nw_ne : Cond.not (Cond.eq (tmW 0) (tmW 1)) ∈ nfl ∨ Cond.not (Cond.eq (tmW 1) (tmW 0)) ∈ nfl := by decide +kernel
theorem nx_0 : Cond.exactly (.string "DeadMonday" 127) "java/lang/String" ∈ nfl := by decide +kernel
theorem nx_1 : Cond.exactly (.string "DeadMonday" 149) "java/lang/String" ∈ nfl := by decide +kernel
theorem nx_2 : Cond.not (.castable xNS xIO) ∈ nfl := by decide +kernel
theorem nx_3 : Cond.isRef (.static Bundle.tN "UNASSIGNED_STACK" Bundle.steD) ∈ nfl := by decide +kernel
theorem nx_4 : Cond.isRef (.static Bundle.tN "SUPPRESSED_SENTINEL" Bundle.listD) ∈ nfl := by decide +kernel
theorem ns_0 : Cond.eq (.static "java/lang/String" "COMPACT_STRINGS" "Z") (.int 1) ∈ nfl := by decide +kernel
theorem ns_1 : Cond.isRef (.static "jdk/internal/util/Preconditions" "SIOOBE_FORMATTER" "Ljava/util/function/BiFunction;") ∈ nfl := by decide +kernel
theorem nl_nest : ∀ q ∈ nestL, Cond.methodLinkNest q.1 q.2.1 q.2.2.1 q.2.2.2 ∈ lw_tbl := by decide +kernel
theorem nt_0 : Cond.laysStatic "DeadMonday$Reader" "MOST" "[I" ∈ lw_tbl ∧ Cond.initialized "DeadMonday$Reader" ∈ lw_tbl ∧ Cond.laysStatic "java/lang/String" "COMPACT_STRINGS" "Z" ∈ lw_tbl ∧ Cond.initialized "java/lang/String" ∈ lw_tbl := by decide +kernel
theorem nt_1 : Cond.laysStatic "jdk/internal/util/Preconditions" "SIOOBE_FORMATTER" "Ljava/util/function/BiFunction;" ∈ lw_tbl ∧ Cond.initialized "jdk/internal/util/Preconditions" ∈ lw_tbl := by decide +kernel
theorem nt_2 : Cond.laysStatic Bundle.tN "UNASSIGNED_STACK" Bundle.steD ∈ lw_tbl ∧ Cond.laysStatic Bundle.tN "SUPPRESSED_SENTINEL" Bundle.listD ∈ lw_tbl ∧ Cond.initialized Bundle.tN ∈ lw_tbl := by decide +kernel
theorem nt_3 : Cond.stringRef "DeadMonday$Tokens" 46 "room  door  thing dead  glass seed  law   like  bear  come  or    and   not   age   kind  taste fond  warm  gauge monday" ∈ lw_tbl ∧ Cond.stringRef "DeadMondayModel" 191 "room door thing dead glass seed law like bear come or and not age kind taste fond warm gauge monday " ∈ lw_tbl := by decide +kernel
theorem nt_4 : Cond.stringRef RX10 127 "no such thing" ∈ lw_tbl ∧ Cond.stringRef RX10 149 "no such what" ∈ lw_tbl := by decide +kernel
theorem start_W {args : Array Value} {s : State} (htl : ∀ x ∈ lw_tbl, x.before args s = true) (hgv : (Jvm.Cond.and given_1 narrow_1).before args s = true) : ∃ w : fW, fAD w ∧ w.2.2.1 0 = s.heap.size ∧ fK w s ∧ fT w s s.heap ∧ fX w s s.heap ∧ fNs s := by
  have hs : ∀ x ∈ nfl, x.before args s = true := flat_of_before _ hgv
  have hA : ∀ a : Nat, a < s.heap.size → ¬ (fun q : Nat => s.heap.size ≤ q) a := fun a h => Nat.not_le.mpr h
  obtain ⟨D, cA, hK⟩ := start_K htl
  obtain ⟨tM, evM, hTM⟩ := va_Tof (tm := tmM) (ty := .int) (N := 6) (f := fun j => .int (mostT.getD j 0)) (by decide) (hs _ nm_arr) (va_eqt (hs _ nm_len)) (fun j hj => va_eqt (hs _ (nm_el j hj))) hA
  obtain ⟨adK, adV, hV, evK⟩ := vk_Sof (N := 2) (tm := tmW) (len := [120, 100]) (byt := [wordsB 0, wordsB 1]) (by decide) (fun i hi => hs _ (nw_ex i hi)) (fun i hi => hs _ (nw_co i hi)) (fun i hi => hs _ (nw_ar i hi)) (fun i hi => hs _ (nw_le i hi)) (fun i hi j hj => hs _ (nw_el i hi j hj)) (fun i j hi hj hne => by
    rcases (show (i = 0 ∧ j = 1) ∨ (i = 1 ∧ j = 0) by omega) with ⟨rfl, rfl⟩ | ⟨rfl, rfl⟩
    · exact nw_ne.imp (fun h => hs _ h) (fun h => hs _ h)
    · exact nw_ne.symm.imp (fun h => hs _ h) (fun h => hs _ h)) hA
  have hG : fG (D, cA, sAd s.heap.size adK adV tM, ((0, 0, fun _ _ => false) : fZ)) = fun q => s.heap.size ≤ q := by
    funext q
    show (sAd s.heap.size adK adV tM 0 ≤ q) = _
    rw [sAd_lo (by omega), Nat.add_zero]
  have ex : ∀ (own : String) (i : Nat), (Cond.exactly (.string own i) "java/lang/String").before args s = true → ∃ a, (Term.string own i).eval args s none [] s = some (.ref a) := by
    intro own i h
    obtain ⟨a, c, cA, kA, q1, -⟩ := Cond.exactly_spec (args := args) (first := s) (o := none) (s := s) (idx := []) h
    exact ⟨a, q1⟩
  obtain ⟨a3, e3⟩ := ex _ _ (hs _ nx_0)
  obtain ⟨a4, e4⟩ := ex _ _ (hs _ nx_1)
  refine ⟨(D, cA, sAd s.heap.size adK adV tM, (0, 0, fun _ _ => false)), fun k hk => ?_, ?_, hK, ?_, ?_, fun q hq => va_Nw.of rfl (htl _ (nl_nest q hq)), htl (.arrayOver (.array .int)) (by decide +kernel)⟩
  · show sAd s.heap.size adK adV tM k = sAd s.heap.size adK adV tM 0 + k
    rw [sAd_lo hk, sAd_lo (by omega), Nat.add_zero]
  · show sAd s.heap.size adK adV tM 0 = _
    rw [sAd_lo (by omega), Nat.add_zero]
  · unfold fT
    rw [hG]
    dsimp only
    rw [sAd_t, sAd_K (i := 0) (by omega), sAd_K (i := 1) (by omega)]
    refine ⟨⟨va_Zof (htl _ nt_0.1) (htl _ nt_0.2.1) evM hA, hTM⟩, ⟨va_Zof (htl _ nt_0.2.2.1) (htl _ nt_0.2.2.2) (va_eqt (hs _ ns_0)) hA, va_Zqof (htl _ nt_1.1) (htl _ nt_1.2) (hs _ ns_1) hA⟩, ⟨fun i hi => ?_, fun i j hi hj h => ?_⟩, vk_R.of (htl _ nt_3.1) (evK 0 (by omega)), vk_R.of (htl _ nt_3.2) (evK 1 (by omega))⟩
    · dsimp only
      rw [sAd_K (by omega), sAd_V (by omega)]
      exact hV.1 i hi
    · dsimp only at h
      rw [sAd_K (by omega), sAd_K (by omega)] at h
      exact hV.2 i j hi hj h
  · unfold fX
    rw [hG]
    refine ⟨vx_Zqof (htl _ nt_2.1) (htl _ nt_2.2.2) (hs _ nx_3) hA, vx_Zqof (htl _ nt_2.2.1) (htl _ nt_2.2.2) (hs _ nx_4) hA, ⟨a3, vk_R.of (htl _ nt_4.1) e3⟩, ⟨a4, vk_R.of (htl _ nt_4.2) e4⟩, va_Nc.of (hs _ nx_2), fun x hx => va_Nw.of ?_ (htl x (xm0 x hx)), fun x hx => va_Nw.of ?_ (htl x (xm1 x hx))⟩
    · have := xk0 x hx
      rw [Bool.and_eq_true] at this
      exact this.1
    · have := xk1 x hx
      rw [Bool.and_eq_true] at this
      exact this.1
