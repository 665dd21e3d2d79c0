/-! String.length, String.charAt on the two lists of words -/
def lenW (i : Nat) : Nat := if i = 0 then 120 else 100
def MX (own : String) (idx : Nat) (y : MethodName) (cy : ByteArray) (mL : Nat) (ret : Option FieldType) (n : Nat) : Prop :=
  Cond.methodLink own idx y ∈ gw ∧ Cond.code y cy mL ret ∈ gw ∧ Cond.initialized y.cls ∈ gw ∧ Cond.instanceMethod y ∈ gw ∧ Cond.selects y.cls y y ∈ gw ∧ y.cls ≠ "java/lang/invoke/MethodHandle" ∧ y.cls ≠ "java/lang/invoke/VarHandle" ∧ (parseMethodDescriptor y.desc).map (fun d => d.parameters.length) = some n
theorem sl_38 : Cond.fieldLink RJ0 38 "java/lang/String" "COMPACT_STRINGS" "Z" ∈ gw := gw_mem 281 (by decide +kernel) rfl
theorem sl_15 : Cond.fieldLink RJ0 15 "java/lang/String" "coder" "B" ∈ gw := gw_mem 2050 (by decide +kernel) rfl
theorem sl_9 : Cond.fieldLink RJ0 9 "java/lang/String" "value" "[B" ∈ gw := gw_mem 2049 (by decide +kernel) rfl
theorem sl_1053 : Cond.fieldLink RJ0 1053 "jdk/internal/util/Preconditions" "SIOOBE_FORMATTER" "Ljava/util/function/BiFunction;" ∈ gw := gw_mem 297 (by decide +kernel) rfl
set_option maxRecDepth 100000 in
theorem sx_335 : MX RJ0 335 yJ0_coder_7d493 cJ0_coder_7d493 1 (some .byte) 0 := ⟨gw_mem 277 (by decide +kernel) rfl, gw_mem 280 (by rfl) rfl, gw_mem 116 (by decide +kernel) rfl, gw_mem 278 (by decide +kernel) rfl, gw_mem 279 (by decide +kernel) rfl, by decide, by decide, by decide +kernel⟩
set_option maxRecDepth 100000 in
theorem sx_492 : MX RJ0 492 yJ0_isLatin1_aae02 cJ0_isLatin1_aae02 1 (some .boolean) 0 := ⟨gw_mem 287 (by decide +kernel) rfl, gw_mem 290 (by rfl) rfl, gw_mem 116 (by decide +kernel) rfl, gw_mem 288 (by decide +kernel) rfl, gw_mem 289 (by decide +kernel) rfl, by decide, by decide, by decide +kernel⟩
set_option maxRecDepth 100000 in
theorem ss_495 : MS RJ0 495 yJ1_charAt_3b067 cJ1_charAt_3b067 2 (some .char) 2 := ⟨gw_mem 291 (by decide +kernel) rfl, gw_mem 293 (by rfl) rfl, gw_mem 117 (by decide +kernel) rfl, gw_mem 292 (by decide +kernel) rfl, by decide, by decide, by decide +kernel⟩
set_option maxRecDepth 100000 in
theorem ss_9 : MS RJ1 9 yJ0_checkIndex_df160 cJ0_checkIndex_df160 2 none 2 := ⟨gw_mem 294 (by decide +kernel) rfl, gw_mem 296 (by rfl) rfl, gw_mem 116 (by decide +kernel) rfl, gw_mem 295 (by decide +kernel) rfl, by decide, by decide, by decide +kernel⟩
set_option maxRecDepth 100000 in
theorem ss_1059 : MS RJ0 1059 yJ3_checkIndex_8e157 cJ3_checkIndex_8e157 3 (some .int) 3 := ⟨gw_mem 299 (by decide +kernel) rfl, gw_mem 301 (by rfl) rfl, gw_mem 118 (by decide +kernel) rfl, gw_mem 300 (by decide +kernel) rfl, by decide, by decide, by decide +kernel⟩
section RowsX
variable {p : Program} {l : Launch} {e : Env} {R : Room} {s : State} {m : MethodId} {args : Array Value} {below : List Frame} {meth : Method} {c : Code} {H H0 : Heap} {locs : List Loc} {cells slots : Nat} {Q : State → Prop} {cc : ByteArray} {nL pc : Nat} {own : String} {w : fW} {μ μ' : fMem} {ls : Array Slot} {rest : List Value} {lv : List (Nat × Value)}
variable {y : MethodName} {cy : ByteArray} {mL n : Nat} {ret : Option FieldType} {rm : Room} {As st0 : List Value} {Qc : Array Value → State → Outcome → State → Prop} {ν : fMem}
theorem callX_run (C : Cx p s m args meth c cc nL own w) (hl : lv_has ls nL lv) (hP : fP w μ H) (hS : ∀ a : Nat, a < s.heap.size → ¬ fG w a → H[a]? = s.heap[a]?) {idx a : Nat} (hrec : ∃ cell : Cell, H[a]? = some cell ∧ cell.vm.isStatics = false ∧ s.vm.findClass y.cls = some cell.cls) (hM : Met l y (.code y cy mL ret :: gw) rm (fPc w (.ref a :: As) μ) Qc 0 0 (fA w)) (hm : MX own idx y cy mL ret n) (hR : rmo R rm mL) (hn : As.length = n) (hst : st0 = As.reverse ++ .ref a :: rest) (hc : (rest.map fun v => v.category).sum ≤ 8) (hz : cells ≤ R.cells ∧ slots ≤ R.slots) (hd : decode cc pc = .ok (.invokevirtual idx, 3)) :
    va_Run p l e R s m args below meth c H locs cells slots 0 0 (F0 m pc ls st0) rest (Qc (Value.ref a :: As).toArray) (fA w) := by
  obtain ⟨hx, hb, hml, hown, hts, hK, hJ, -, hT⟩ := C
  obtain ⟨m1, m2, m3, m4, m4b, m5, m6, m7⟩ := hm
  exact va_runV (As := As) (rest := rest) (C := y.cls) ⟨hx, hb, hml, hown, hts⟩ hM ⟨callB_of n hts (goodY (x := Cond.code y cy mL ret) m2) rfl hR.1 hR.2.1 (hts _ m3) (hts _ m1) ⟨m5, m6, m7⟩ hR.2.2, hts _ m4, hts _ m4b⟩ ⟨fPc_blind, hrec, fun U hU hW => ⟨rfl, by rw [hU]; exact hP, va_K.moved hW.alike hK, by rw [hU]; exact hT.warm hW hS⟩⟩ rfl hn hl.1 hst (lv_room hc) hd hz
theorem r_bret (C : Cx p s m args meth c cc nL own w) {ty : FieldType} (hr : meth.sig.returnType = some ty) {v : Int32} (hv : narrow ty (.int v) = .int v) (hP : fP w μ H) (hS : va_S (fA w) s.heap H locs) (hd : decode cc pc = .ok (.ireturn, 1)) : W p l e R s m args below meth c H locs cells slots (MQ below (fQi w v μ) args s cells slots (fA w)) (F0 m pc ls [.int v]) := by
  obtain ⟨hx, hb, -, hown, hts, hK, -, hlk, -⟩ := C
  exact W.zret hx hb hr hv (fun t ht hW => ⟨⟨v, (), rfl, rfl, by rw [ht]; exact hP, va_K.moved hW.alike hK⟩, hS.F ht⟩) hS.2.2 hd hlk
end RowsX
set_option maxHeartbeats 4000000 in
set_option maxRecDepth 100000 in
theorem t_coder (l : Launch) (w : fW) (hJ : fJ w) (i : Nat) (hi : i < 2) (μ : fMem) : Met l yJ0_coder_7d493 (.code yJ0_coder_7d493 cJ0_coder_7d493 1 (some .byte) :: gw) ({ frames := 0, cells := 0, slots := 0, locals := 0 } : Room) (fPc w [.ref (w.2.2.1 (1000 + i))] μ) (fQi w 0 μ) 0 0 (fA w) := by
  refine met_of hJ (by decide) ?_ (Nat.le_of_ble_eq_true rfl)
  generalize ([.ref (w.2.2.1 (1000 + i))] : List Value).toArray = args
  intro p e s m below meth c ls C hr hP hl hS
  obtain ⟨hx, hb, hml, hown, hts, hK, -, hlk, hT⟩ := id C
  obtain ⟨-, ⟨hZ, hZq⟩, hE, -, -⟩ := id hT
  have hl : lv_has ls 1 [(0, .ref (w.2.2.1 (1000 + i)))] := hl
  refine va_gets hx hb hZ (hS.wide hJ) hown (hts _ sl_38) (fun _ h => h) dJ0_coder_7d493_0 ?_
  refine lv_if_eq (tgt := 13) hx hb dJ0_coder_7d493_3 (by decide) (fun c1 => ?_) (fun c1 => ?_)
  · exact absurd c1 (by decide)
  · refine lv_aload_n hx hb dJ0_coder_7d493_6 rfl (lv_at hl 0 rfl) ?_
    refine vk_getf hx hb (hE.1 i hi).2.1 (hS.wide hJ) hown (hts _ sl_15) (fun _ h => h) dJ0_coder_7d493_7 ?_
    refine lv_goto (tgt := 14) hx hb dJ0_coder_7d493_10 (by decide) ?_
    exact r_bret C hr rfl hP hS dJ0_coder_7d493_14
set_option maxHeartbeats 4000000 in
set_option maxRecDepth 100000 in
theorem t_isLatin1 (l : Launch) (w : fW) (hJ : fJ w) (i : Nat) (hi : i < 2) (μ : fMem) : Met l yJ0_isLatin1_aae02 (.code yJ0_isLatin1_aae02 cJ0_isLatin1_aae02 1 (some .boolean) :: gw) ({ frames := 0, cells := 0, slots := 0, locals := 0 } : Room) (fPc w [.ref (w.2.2.1 (1000 + i))] μ) (fQi w 1 μ) 0 0 (fA w) := by
  refine met_of hJ (by decide) ?_ (Nat.le_of_ble_eq_true rfl)
  generalize ([.ref (w.2.2.1 (1000 + i))] : List Value).toArray = args
  intro p e s m below meth c ls C hr hP hl hS
  obtain ⟨hx, hb, hml, hown, hts, hK, -, hlk, hT⟩ := id C
  obtain ⟨-, ⟨hZ, hZq⟩, hE, -, -⟩ := id hT
  have hl : lv_has ls 1 [(0, .ref (w.2.2.1 (1000 + i)))] := hl
  refine va_gets hx hb hZ (hS.wide hJ) hown (hts _ sl_38) (fun _ h => h) dJ0_isLatin1_aae02_0 ?_
  refine lv_if_eq (tgt := 17) hx hb dJ0_isLatin1_aae02_3 (by decide) (fun c1 => ?_) (fun c1 => ?_)
  · exact absurd c1 (by decide)
  · refine lv_aload_n hx hb dJ0_isLatin1_aae02_6 rfl (lv_at hl 0 rfl) ?_
    refine vk_getf hx hb (hE.1 i hi).2.1 (hS.wide hJ) hown (hts _ sl_15) (fun _ h => h) dJ0_isLatin1_aae02_7 ?_
    refine lv_if_ne (tgt := 17) hx hb dJ0_isLatin1_aae02_10 (by decide) (fun c1 => ?_) (fun c1 => ?_)
    · exact absurd rfl c1
    · refine lv_iconst (v := 1) hx hb dJ0_isLatin1_aae02_13 (by decide) ?_
      refine lv_goto (tgt := 18) hx hb dJ0_isLatin1_aae02_14 (by decide) ?_
      exact r_bret C hr rfl hP hS dJ0_isLatin1_aae02_18
set_option maxHeartbeats 4000000 in
set_option maxRecDepth 100000 in
theorem t_length (l : Launch) (w : fW) (hJ : fJ w) (i : Nat) (hi : i < 2) (μ : fMem) : Met l yJ0_length_8abf5 (.code yJ0_length_8abf5 cJ0_length_8abf5 1 (some .int) :: gw) ({ frames := 1, cells := 0, slots := 0, locals := 30 } : Room) (fPc w [.ref (w.2.2.1 (1000 + i))] μ) (fQi w (Int32.ofNat (lenW i)) μ) 0 0 (fA w) := by
  refine met_of hJ (by decide) ?_ (Nat.le_of_ble_eq_true rfl)
  generalize ([.ref (w.2.2.1 (1000 + i))] : List Value).toArray = args
  intro p e s m below meth c ls C hr hP hl hS
  obtain ⟨hx, hb, hml, hown, hts, hK, -, hlk, hT⟩ := id C
  obtain ⟨-, ⟨hZ, hZq⟩, hE, -, -⟩ := id hT
  have hl : lv_has ls 1 [(0, .ref (w.2.2.1 (1000 + i)))] := hl
  refine lv_aload_n hx hb dJ0_length_8abf5_0 rfl (lv_at hl 0 rfl) ?_
  refine vk_getf hx hb (hE.1 i hi).2.2.1 (hS.wide hJ) hown (hts _ sl_9) (fun _ h => h) dJ0_length_8abf5_1 ?_
  refine va_tlen (v := Int32.ofNat (lenW i)) hx hb (hE.1 i hi).2.2.2 (hS.wide hJ) (by rcases (show i = 0 ∨ i = 1 by omega) with rfl | rfl <;> rfl) dJ0_length_8abf5_4 ?_
  refine lv_aload_n hx hb dJ0_length_8abf5_5 rfl (lv_at hl 0 rfl) ?_
  refine go_i (callX_run (As := []) (rest := [.int (Int32.ofNat (lenW i))]) C hl hP (hS.wide hJ).2.1 (vk_recv hE hi (hS.wide hJ)) (t_coder l w hJ i hi μ) sx_335 ⟨rfl, rfl, by decide, by decide⟩ rfl rfl (Nat.le_of_ble_eq_true rfl) ⟨Nat.zero_le _, Nat.zero_le _⟩ dJ0_length_8abf5_6) hS (fun H locs hP hS => ?_)
  refine r_ishr hx hb dJ0_length_8abf5_9 ?_
  rw [show shr (Int32.ofNat (lenW i)) 0 = Int32.ofNat (lenW i) by rcases (show i = 0 ∨ i = 1 by omega) with rfl | rfl <;> decide]
  exact r_bret C hr rfl hP hS dJ0_length_8abf5_10
set_option maxHeartbeats 4000000 in
set_option maxRecDepth 100000 in
theorem t_check3 (l : Launch) (w : fW) (hJ : fJ w) (k n : Int32) (h1 : ¬ k < 0) (h2 : k < n) (bf : Value) (hbf : bf = .null ∨ ∃ t : Nat, bf = .ref t) (μ : fMem) : Met l yJ3_checkIndex_8e157 (.code yJ3_checkIndex_8e157 cJ3_checkIndex_8e157 3 (some .int) :: gw) ({ frames := 0, cells := 0, slots := 0, locals := 0 } : Room) (fPc w [.int k, .int n, bf] μ) (fQi w k μ) 0 0 (fA w) := by
  refine met_of hJ (by decide) ?_ (by rcases hbf with rfl | ⟨t, rfl⟩ <;> exact Nat.le_of_ble_eq_true rfl)
  generalize ([.int k, .int n, bf] : List Value).toArray = args
  intro p e s m below meth c ls C hr hP hl hS
  obtain ⟨hx, hb, hml, hown, hts, hK, -, hlk, hT⟩ := id C
  obtain ⟨-, ⟨hZ, hZq⟩, hE, -, -⟩ := id hT
  have hl : lv_has ls 3 [(0, .int k), (1, .int n), (2, bf)] := hl
  refine lv_iload_n hx hb dJ3_checkIndex_8e157_0 rfl (lv_at hl 0 rfl) ?_
  refine lv_if_lt (tgt := 9) hx hb dJ3_checkIndex_8e157_1 (by decide) (fun c1 => ?_) (fun c1 => ?_)
  · exact absurd c1 h1
  · refine lv_iload_n hx hb dJ3_checkIndex_8e157_4 rfl (lv_at hl 0 rfl) ?_
    refine lv_iload_n hx hb dJ3_checkIndex_8e157_5 rfl (lv_at hl 1 rfl) ?_
    refine lv_icmp_lt (tgt := 16) hx hb dJ3_checkIndex_8e157_6 (by decide) (fun c1 => ?_) (fun c1 => ?_)
    · refine lv_iload_n hx hb dJ3_checkIndex_8e157_16 rfl (lv_at hl 0 rfl) ?_
      exact r_bret C hr rfl hP hS dJ3_checkIndex_8e157_17
    · exact absurd h2 c1
set_option maxHeartbeats 4000000 in
set_option maxRecDepth 100000 in
theorem t_check0 (l : Launch) (w : fW) (hJ : fJ w) (k n : Int32) (h1 : ¬ k < 0) (h2 : k < n) (μ : fMem) : Met l yJ0_checkIndex_df160 (.code yJ0_checkIndex_df160 cJ0_checkIndex_df160 2 none :: gw) ({ frames := 1, cells := 0, slots := 0, locals := 30 } : Room) (fPc w [.int k, .int n] μ) (fQv w μ) 0 0 (fA w) := by
  refine met_of hJ (by decide) ?_ (Nat.le_of_ble_eq_true rfl)
  generalize ([.int k, .int n] : List Value).toArray = args
  intro p e s m below meth c ls C hr hP hl hS
  obtain ⟨hx, hb, hml, hown, hts, hK, -, hlk, hT⟩ := id C
  obtain ⟨-, ⟨hZ, hZq⟩, hE, -, -⟩ := id hT
  have hl : lv_has ls 2 [(0, .int k), (1, .int n)] := hl
  refine lv_iload_n hx hb dJ0_checkIndex_df160_0 rfl (lv_at hl 0 rfl) ?_
  refine lv_iload_n hx hb dJ0_checkIndex_df160_1 rfl (lv_at hl 1 rfl) ?_
  obtain ⟨bf, hbf, hZb⟩ : ∃ bf : Value, (bf = .null ∨ ∃ t : Nat, bf = .ref t) ∧ va_Z "jdk/internal/util/Preconditions" "SIOOBE_FORMATTER" "Ljava/util/function/BiFunction;" bf (fG w) s s.heap := by
    rcases hZq with z | ⟨t, z⟩
    · exact ⟨_, Or.inl rfl, z⟩
    · exact ⟨_, Or.inr ⟨t, rfl⟩, z⟩
  refine va_gets hx hb hZb (hS.wide hJ) hown (hts _ sl_1053) (fun _ h => h) dJ0_checkIndex_df160_2 ?_
  refine go_i (callS_run (As := [.int k, .int n, bf]) (rest := []) C hl hP (hS.wide hJ).2.1 (t_check3 l w hJ k n h1 h2 bf hbf μ) ss_1059 ⟨rfl, rfl, by decide, by decide⟩ rfl rfl (Nat.le_of_ble_eq_true rfl) ⟨Nat.zero_le _, Nat.zero_le _⟩ dJ0_checkIndex_df160_5) hS (fun H locs hP hS => ?_)
  refine lv_pop hx hb dJ0_checkIndex_df160_8 rfl ?_
  exact r_vret (r := ()) C hr hP hS rfl dJ0_checkIndex_df160_9
set_option maxHeartbeats 4000000 in
set_option maxRecDepth 100000 in
theorem t_chars (l : Launch) (w : fW) (hJ : fJ w) (i : Nat) (hi : i < 2) (k : Int32) (hk : ixo k (lenW i)) (μ : fMem) : Met l yJ1_charAt_3b067 (.code yJ1_charAt_3b067 cJ1_charAt_3b067 2 (some .char) :: gw) ({ frames := 2, cells := 0, slots := 0, locals := 60 } : Room) (fPc w [.ref (w.2.2.1 (1010 + i)), .int k] μ) (fQi w ((wordsB i).getD (Int32.toNatClampNeg k) 0 &&& 255) μ) 0 0 (fA w) := by
  refine met_of hJ (by decide) ?_ (Nat.le_of_ble_eq_true rfl)
  generalize ([.ref (w.2.2.1 (1010 + i)), .int k] : List Value).toArray = args
  intro p e s m below meth c ls C hr hP hl hS
  obtain ⟨hx, hb, hml, hown, hts, hK, -, hlk, hT⟩ := id C
  obtain ⟨-, ⟨hZ, hZq⟩, hE, -, -⟩ := id hT
  have hl : lv_has ls 2 [(0, .ref (w.2.2.1 (1010 + i))), (1, .int k)] := hl
  have h1 : ¬ k < 0 := fun z => hk (Or.inl z)
  have h2 : k < Int32.ofNat (lenW i) := by
    have q1 := ixlt hk
    obtain ⟨j, hj, rfl⟩ := nI_of h1
    rw [nI_clamp hj] at q1
    exact nI_lt q1 (by rcases (show i = 0 ∨ i = 1 by omega) with rfl | rfl <;> decide)
  refine lv_iload_n hx hb dJ1_charAt_3b067_0 rfl (lv_at hl 1 rfl) ?_
  refine lv_aload_n hx hb dJ1_charAt_3b067_1 rfl (lv_at hl 0 rfl) ?_
  refine va_tlen (v := Int32.ofNat (lenW i)) hx hb (hE.1 i hi).2.2.2 (hS.wide hJ) (by rcases (show i = 0 ∨ i = 1 by omega) with rfl | rfl <;> rfl) dJ1_charAt_3b067_2 ?_
  refine go_v (callS_run (As := [.int k, .int (Int32.ofNat (lenW i))]) (rest := []) C hl hP (hS.wide hJ).2.1 (t_check0 l w hJ k _ h1 h2 μ) ss_9 ⟨rfl, rfl, by decide, by decide⟩ rfl rfl (Nat.le_of_ble_eq_true rfl) ⟨Nat.zero_le _, Nat.zero_le _⟩ dJ1_charAt_3b067_3) hS (fun H locs hP hS => ?_)
  refine lv_aload_n hx hb dJ1_charAt_3b067_6 rfl (lv_at hl 0 rfl) ?_
  refine lv_iload_n hx hb dJ1_charAt_3b067_7 rfl (lv_at hl 1 rfl) ?_
  refine va_tb (v := .int ((wordsB i).getD (Int32.toNatClampNeg k) 0)) hx hb (hE.1 i hi).2.2.2 (hS.wide hJ) (by rcases (show i = 0 ∨ i = 1 by omega) with rfl | rfl <;> exact hk) (by rcases (show i = 0 ∨ i = 1 by omega) with rfl | rfl <;> rfl) dJ1_charAt_3b067_8 ?_
  refine lv_sipush (v := 255) hx hb dJ1_charAt_3b067_9 (by decide) ?_
  refine lv_iand hx hb dJ1_charAt_3b067_12 ?_
  refine lv_i2c hx hb dJ1_charAt_3b067_13 (sc_c2 _) ?_
  exact r_bret C hr (sc_nar _) hP hS dJ1_charAt_3b067_14
set_option maxHeartbeats 4000000 in
set_option maxRecDepth 100000 in
theorem t_charAt (l : Launch) (w : fW) (hJ : fJ w) (i : Nat) (hi : i < 2) (k : Int32) (hk : ixo k (lenW i)) (μ : fMem) : Met l yJ0_charAt_5068e (.code yJ0_charAt_5068e cJ0_charAt_5068e 2 (some .char) :: gw) ({ frames := 3, cells := 0, slots := 0, locals := 90 } : Room) (fPc w [.ref (w.2.2.1 (1000 + i)), .int k] μ) (fQi w ((wordsB i).getD (Int32.toNatClampNeg k) 0 &&& 255) μ) 0 0 (fA w) := by
  refine met_of hJ (by decide) ?_ (Nat.le_of_ble_eq_true rfl)
  generalize ([.ref (w.2.2.1 (1000 + i)), .int k] : List Value).toArray = args
  intro p e s m below meth c ls C hr hP hl hS
  obtain ⟨hx, hb, hml, hown, hts, hK, -, hlk, hT⟩ := id C
  obtain ⟨-, ⟨hZ, hZq⟩, hE, -, -⟩ := id hT
  have hl : lv_has ls 2 [(0, .ref (w.2.2.1 (1000 + i))), (1, .int k)] := hl
  refine lv_aload_n hx hb dJ0_charAt_5068e_0 rfl (lv_at hl 0 rfl) ?_
  refine go_i (callX_run (As := []) (rest := []) C hl hP (hS.wide hJ).2.1 (vk_recv hE hi (hS.wide hJ)) (t_isLatin1 l w hJ i hi μ) sx_492 ⟨rfl, rfl, by decide, by decide⟩ rfl rfl (Nat.le_of_ble_eq_true rfl) ⟨Nat.zero_le _, Nat.zero_le _⟩ dJ0_charAt_5068e_1) hS (fun H locs hP hS => ?_)
  refine lv_if_eq (tgt := 16) hx hb dJ0_charAt_5068e_4 (by decide) (fun c1 => ?_) (fun c1 => ?_)
  · exact absurd c1 (by decide)
  · refine lv_aload_n hx hb dJ0_charAt_5068e_7 rfl (lv_at hl 0 rfl) ?_
    refine vk_getf hx hb (hE.1 i hi).2.2.1 (hS.wide hJ) hown (hts _ sl_9) (fun _ h => h) dJ0_charAt_5068e_8 ?_
    refine lv_iload_n hx hb dJ0_charAt_5068e_11 rfl (lv_at hl 1 rfl) ?_
    refine go_i (callS_run (As := [.ref (w.2.2.1 (1010 + i)), .int k]) (rest := []) C hl hP (hS.wide hJ).2.1 (t_chars l w hJ i hi k hk μ) ss_495 ⟨rfl, rfl, by decide, by decide⟩ rfl rfl (Nat.le_of_ble_eq_true rfl) ⟨Nat.zero_le _, Nat.zero_le _⟩ dJ0_charAt_5068e_12) hS (fun H locs hP hS => ?_)
    exact r_bret C hr (sc_nar _) hP hS dJ0_charAt_5068e_15
def wch (k : Int32) : Int32 := (wordsB 1).getD (Int32.toNatClampNeg k) 0 &&& 255
set_option maxRecDepth 100000 in
theorem mx_X11_193 : MX RX11 193 yJ0_length_8abf5 cJ0_length_8abf5 1 (some .int) 0 := ⟨gw_mem 1608 (by decide +kernel) rfl, gw_mem 276 (by rfl) rfl, gw_mem 116 (by decide +kernel) rfl, gw_mem 274 (by decide +kernel) rfl, gw_mem 275 (by decide +kernel) rfl, by decide, by decide, by decide +kernel⟩
set_option maxRecDepth 100000 in
theorem mx_X11_198 : MX RX11 198 yJ0_charAt_5068e cJ0_charAt_5068e 2 (some .char) 1 := ⟨gw_mem 1609 (by decide +kernel) rfl, gw_mem 286 (by rfl) rfl, gw_mem 116 (by decide +kernel) rfl, gw_mem 284 (by decide +kernel) rfl, gw_mem 285 (by decide +kernel) rfl, by decide, by decide, by decide +kernel⟩
