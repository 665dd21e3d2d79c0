/-! the memory as the constructors leave it -/
/-- a word of the language as letters of five bits, filled up with blanks -/
def lwT (w : Nat) : Int32 := (List.range 6).foldl (fun a k => a * 32 + (((wordsB 0).getD (6 * w + k) 0 &&& 255) &&& 31)) 0
def iniI : Nat → Nat → Int32
  | 30 => fun j => if j = 1 then -1 else 0
  | 31 => fun j => if j = 0 then 22 else 0
  | 32 => fun j => if j < 20 then lwT j else 0
  | 67 => fun j => if j < 8 then -1 else 0
  | 73 => fun j => if j < 8 then -1 else 0
  | 79 => fun j => if j < 8 then -1 else 0
  | 84 => fun j => if j = 2 then -1 else if j = 4 then -1 else 0
  | 114 => fun j => if j < 8 then -1 else 0
  | 123 => fun j => if j = 1 then -1 else 0
  | 181 => fun j => if j = 31 then -1 else if j = 48 then -1 else if j = 49 then -1 else if j = 50 then -1 else if j = 58 then -1 else 0
  | _ => fun _ => 0
def iniL : Nat → Nat → Int64
  | 121 => fun j => if j < 48 then -1 else 0
  | _ => fun _ => 0
def iniR : Nat → Nat → Nat
  | 0 => fun j => if j = 2 then 2 else 0
  | 30 => fun j => if j = 3 then 37 else 0
  | 84 => fun j => if j = 8 then 85 else if j = 9 then 113 else 0
  | _ => fun _ => 0
def ini : fMem := (iniI, iniL, iniR)
theorem kd_ne4 {k a n ci : Nat} (h : kd k = (a, n)) (ha : a ≠ 4) (hc : kd k = (4, ci)) : False := ha (congrArg Prod.fst (h.symm.trans hc))
theorem fP_mg {w : fW} {lo n e' : Nat} {z : Nat → Nat → Bool} {M I : fMem} {H : Heap} (hn : n ≤ 221) (h1 : fP (wz w lo n z) M H) (h2 : fP (wz w n e' (zm z n e')) (mg M I n e') H) : fP (wz w lo e' (zm z n e')) (mg M I n e') H := by
  refine fP_join (fP_congr hn h1 (fun k a1 a2 => ?_)) h2
  have e : ¬ (n ≤ k ∧ k < e') := fun q => by omega
  refine ⟨(if_neg e).symm, (if_neg e).symm, fun ci _ j _ _ => ⟨(if_neg e).symm, fun _ => ?_⟩⟩
  show M.2.2 k j = (if n ≤ k ∧ k < e' then I.2.2 k else M.2.2 k) j
  rw [if_neg e]
theorem fAD.up {w : fW} (h : fAD w) {k n q : Nat} (hk : k ≤ n) (hn : n ≤ 221) (hq : w.2.2.1 n ≤ q) : w.2.2.1 k ≤ q := by
  have e1 := h k (by omega)
  have e2 := h n hn
  omega
theorem fAD.up0 {w : fW} (h : fAD w) {k q : Nat} (hk : k ≤ 221) (hq : w.2.2.1 k ≤ q) : fG w q := by
  have e1 := h k hk
  show w.2.2.1 0 ≤ q
  omega
theorem fd_0_8 {k : Nat} (h : kd k = (4, 0)) : kd (k + 1) = (4, 2) := by have e := ko_0 h; subst e <;> decide +kernel
theorem fd_0_9 {k : Nat} (h : kd k = (4, 0)) : kd (k + 29) = (4, 7) := by have e := ko_0 h; subst e <;> decide +kernel
theorem fd_5_3 {k : Nat} (h : kd k = (4, 5)) : kd (k + 7) = (4, 2) := by have e := ko_5 h; subst e <;> decide +kernel
theorem fd_10_2 {k : Nat} (h : kd k = (4, 10)) : kd (k + 2) = (4, 2) := by have e := ko_10 h; subst e <;> decide +kernel
theorem fp_X0_28 : FP RX0 28 0 5 .int := ⟨(RX0, TX0, 17), rfl, by decide, rfl, gw_mem 462 (by decide +kernel) rfl, iu_X0, ⟨tyX0, tyX0_ok⟩, nmX0, rfl, by decide +kernel⟩
set_option maxRecDepth 100000 in
theorem cd_X3_init : Cond.code yX3_init cX3_init 1 none ∈ gw := gw_mem 156 (by rfl) rfl
set_option maxRecDepth 100000 in
theorem cd_X2_init : Cond.code yX2_init cX2_init 1 none ∈ gw := gw_mem 148 (by rfl) rfl
set_option maxRecDepth 100000 in
theorem cd_X7_init : Cond.code yX7_init cX7_init 1 none ∈ gw := gw_mem 392 (by rfl) rfl
theorem oi : Cond.instanceMethod objectInit ∈ gw ∧ Cond.code objectInit ⟨#[0xb1]⟩ 1 none ∈ gw := ⟨gw_mem 142 (by decide +kernel) rfl, gw_mem 143 (by decide +kernel) rfl⟩
theorem ac_int : Cond.arrayClass .int ∈ gw := gw_mem 178 (by decide +kernel) rfl
theorem ac_long : Cond.arrayClass .long ∈ gw := gw_mem 179 (by decide +kernel) rfl
theorem ac_boolean : Cond.arrayClass .boolean ∈ gw := gw_mem 544 (by decide +kernel) rfl
theorem ol_X3_3 : Cond.methodLink RX3 3 objectInit ∈ gw := gw_mem 157 (by decide +kernel) rfl
theorem ff_X3_22 : FF RX3 22 3 3 (.array .int) := ⟨(RX3, TX3, 6), rfl, by decide, rfl, gw_mem 162 (by decide +kernel) rfl, iu_X3, ⟨tyX3, tyX3_ok⟩, nmX3, rfl, rfl, by decide +kernel⟩
theorem ff_X3_26 : FF RX3 26 3 4 (.array .int) := ⟨(RX3, TX3, 6), rfl, by decide, rfl, gw_mem 163 (by decide +kernel) rfl, iu_X3, ⟨tyX3, tyX3_ok⟩, nmX3, rfl, rfl, by decide +kernel⟩
theorem ff_X3_29 : FF RX3 29 3 5 (.array .long) := ⟨(RX3, TX3, 6), rfl, by decide, rfl, gw_mem 164 (by decide +kernel) rfl, iu_X3, ⟨tyX3, tyX3_ok⟩, nmX3, rfl, rfl, by decide +kernel⟩
theorem ol_X2_3 : Cond.methodLink RX2 3 objectInit ∈ gw := gw_mem 149 (by decide +kernel) rfl
theorem ff_X2_9 : FF RX2 9 2 0 (.array .int) := ⟨(RX2, TX2, 16), rfl, by decide, rfl, gw_mem 180 (by decide +kernel) rfl, iu_X2, ⟨tyX2, tyX2_ok⟩, nmX2, rfl, rfl, by decide +kernel⟩
theorem cl_X2_22 : Cond.classLink RX2 22 ("[" ++ (FieldType.array .int).toString) ∈ gw := gw_mem 150 (by decide +kernel) rfl
theorem ff_X2_24 : FF RX2 24 2 3 (.array (.array .int)) := ⟨(RX2, TX2, 16), rfl, by decide, rfl, gw_mem 188 (by decide +kernel) rfl, iu_X2, ⟨tyX2, tyX2_ok⟩, nmX2, rfl, rfl, by decide +kernel⟩
theorem ff_X2_27 : FF RX2 27 2 4 (.array .int) := ⟨(RX2, TX2, 16), rfl, by decide, rfl, gw_mem 190 (by decide +kernel) rfl, iu_X2, ⟨tyX2, tyX2_ok⟩, nmX2, rfl, rfl, by decide +kernel⟩
theorem ff_X2_30 : FF RX2 30 2 5 (.array .int) := ⟨(RX2, TX2, 16), rfl, by decide, rfl, gw_mem 192 (by decide +kernel) rfl, iu_X2, ⟨tyX2, tyX2_ok⟩, nmX2, rfl, rfl, by decide +kernel⟩
theorem ff_X2_33 : FF RX2 33 2 6 (.array .int) := ⟨(RX2, TX2, 16), rfl, by decide, rfl, gw_mem 195 (by decide +kernel) rfl, iu_X2, ⟨tyX2, tyX2_ok⟩, nmX2, rfl, rfl, by decide +kernel⟩
theorem ff_X2_36 : FF RX2 36 2 7 (.array .int) := ⟨(RX2, TX2, 16), rfl, by decide, rfl, gw_mem 199 (by decide +kernel) rfl, iu_X2, ⟨tyX2, tyX2_ok⟩, nmX2, rfl, rfl, by decide +kernel⟩
theorem ff_X2_39 : FF RX2 39 2 8 (.array .int) := ⟨(RX2, TX2, 16), rfl, by decide, rfl, gw_mem 203 (by decide +kernel) rfl, iu_X2, ⟨tyX2, tyX2_ok⟩, nmX2, rfl, rfl, by decide +kernel⟩
theorem ff_X2_42 : FF RX2 42 2 9 (.array .int) := ⟨(RX2, TX2, 16), rfl, by decide, rfl, gw_mem 207 (by decide +kernel) rfl, iu_X2, ⟨tyX2, tyX2_ok⟩, nmX2, rfl, rfl, by decide +kernel⟩
theorem ff_X2_45 : FF RX2 45 2 10 (.array .int) := ⟨(RX2, TX2, 16), rfl, by decide, rfl, gw_mem 211 (by decide +kernel) rfl, iu_X2, ⟨tyX2, tyX2_ok⟩, nmX2, rfl, rfl, by decide +kernel⟩
theorem ff_X2_48 : FF RX2 48 2 11 (.array .int) := ⟨(RX2, TX2, 16), rfl, by decide, rfl, gw_mem 215 (by decide +kernel) rfl, iu_X2, ⟨tyX2, tyX2_ok⟩, nmX2, rfl, rfl, by decide +kernel⟩
theorem ff_X2_51 : FF RX2 51 2 12 (.array .int) := ⟨(RX2, TX2, 16), rfl, by decide, rfl, gw_mem 219 (by decide +kernel) rfl, iu_X2, ⟨tyX2, tyX2_ok⟩, nmX2, rfl, rfl, by decide +kernel⟩
theorem nl_X2_54 : NL RX2 54 3 := ⟨(RX3, TX3, 6), rfl, rfl, gw_mem 152 (by decide +kernel) rfl, gw_mem 153 (by decide +kernel) rfl, gw_mem 113 (by decide +kernel) rfl, iu_X3, tyX3, tyX3_ok, by decide +kernel⟩
theorem il_X2_56 : IL RX2 56 yX3_init cX3_init 1 ∨ IN RX2 56 yX3_init cX3_init 1 := Or.inr ⟨by decide +kernel, cd_X3_init, gw_mem 113 (by decide +kernel) rfl, gw_mem 155 (by decide +kernel) rfl, rfl, by decide, by decide, by decide +kernel⟩
theorem ff_X2_57 : FF RX2 57 2 13 (.object "DeadMonday$Law") := ⟨(RX2, TX2, 16), rfl, by decide, rfl, gw_mem 221 (by decide +kernel) rfl, iu_X2, ⟨tyX2, tyX2_ok⟩, nmX2, rfl, rfl, by decide +kernel⟩
theorem ff_X2_61 : FF RX2 61 2 14 (.object "DeadMonday$Law") := ⟨(RX2, TX2, 16), rfl, by decide, rfl, gw_mem 223 (by decide +kernel) rfl, iu_X2, ⟨tyX2, tyX2_ok⟩, nmX2, rfl, rfl, by decide +kernel⟩
theorem ff_X2_64 : FF RX2 64 2 15 (.object "DeadMonday$Law") := ⟨(RX2, TX2, 16), rfl, by decide, rfl, gw_mem 225 (by decide +kernel) rfl, iu_X2, ⟨tyX2, tyX2_ok⟩, nmX2, rfl, rfl, by decide +kernel⟩
theorem ol_X7_3 : Cond.methodLink RX7 3 objectInit ∈ gw := gw_mem 393 (by decide +kernel) rfl
theorem ff_X7_9 : FF RX7 9 7 0 (.array .int) := ⟨(RX7, TX7, 7), rfl, by decide, rfl, gw_mem 397 (by decide +kernel) rfl, iu_X7, ⟨tyX7, tyX7_ok⟩, nmX7, rfl, rfl, by decide +kernel⟩
theorem ff_X7_15 : FF RX7 15 7 1 (.array .int) := ⟨(RX7, TX7, 7), rfl, by decide, rfl, gw_mem 404 (by decide +kernel) rfl, iu_X7, ⟨tyX7, tyX7_ok⟩, nmX7, rfl, rfl, by decide +kernel⟩
theorem ff_X7_18 : FF RX7 18 7 2 (.array .int) := ⟨(RX7, TX7, 7), rfl, by decide, rfl, gw_mem 407 (by decide +kernel) rfl, iu_X7, ⟨tyX7, tyX7_ok⟩, nmX7, rfl, rfl, by decide +kernel⟩
theorem ff_X7_21 : FF RX7 21 7 3 (.array .int) := ⟨(RX7, TX7, 7), rfl, by decide, rfl, gw_mem 410 (by decide +kernel) rfl, iu_X7, ⟨tyX7, tyX7_ok⟩, nmX7, rfl, rfl, by decide +kernel⟩
theorem ff_X7_24 : FF RX7 24 7 4 (.array .int) := ⟨(RX7, TX7, 7), rfl, by decide, rfl, gw_mem 414 (by decide +kernel) rfl, iu_X7, ⟨tyX7, tyX7_ok⟩, nmX7, rfl, rfl, by decide +kernel⟩
theorem ol_X4_3 : Cond.methodLink RX4 3 objectInit ∈ gw := gw_mem 516 (by decide +kernel) rfl
theorem ff_X4_18 : FF RX4 18 4 2 (.array .int) := ⟨(RX4, TX4, 8), rfl, by decide, rfl, gw_mem 521 (by decide +kernel) rfl, iu_X4, ⟨tyX4, tyX4_ok⟩, nmX4, rfl, rfl, by decide +kernel⟩
theorem ff_X4_22 : FF RX4 22 4 3 (.array .int) := ⟨(RX4, TX4, 8), rfl, by decide, rfl, gw_mem 522 (by decide +kernel) rfl, iu_X4, ⟨tyX4, tyX4_ok⟩, nmX4, rfl, rfl, by decide +kernel⟩
theorem ff_X4_25 : FF RX4 25 4 4 (.array .int) := ⟨(RX4, TX4, 8), rfl, by decide, rfl, gw_mem 523 (by decide +kernel) rfl, iu_X4, ⟨tyX4, tyX4_ok⟩, nmX4, rfl, rfl, by decide +kernel⟩
theorem ff_X4_28 : FF RX4 28 4 5 (.array .boolean) := ⟨(RX4, TX4, 8), rfl, by decide, rfl, gw_mem 524 (by decide +kernel) rfl, iu_X4, ⟨tyX4, tyX4_ok⟩, nmX4, rfl, rfl, by decide +kernel⟩
theorem ff_X4_32 : FF RX4 32 4 6 (.array .int) := ⟨(RX4, TX4, 8), rfl, by decide, rfl, gw_mem 525 (by decide +kernel) rfl, iu_X4, ⟨tyX4, tyX4_ok⟩, nmX4, rfl, rfl, by decide +kernel⟩
theorem ff_X4_35 : FF RX4 35 4 7 (.array .boolean) := ⟨(RX4, TX4, 8), rfl, by decide, rfl, gw_mem 526 (by decide +kernel) rfl, iu_X4, ⟨tyX4, tyX4_ok⟩, nmX4, rfl, rfl, by decide +kernel⟩
theorem ol_X8_3 : Cond.methodLink RX8 3 objectInit ∈ gw := gw_mem 550 (by decide +kernel) rfl
theorem ff_X8_15 : FF RX8 15 8 1 (.array .int) := ⟨(RX8, TX8, 4), rfl, by decide, rfl, gw_mem 553 (by decide +kernel) rfl, iu_X8, ⟨tyX8, tyX8_ok⟩, nmX8, rfl, rfl, by decide +kernel⟩
theorem ff_X8_19 : FF RX8 19 8 2 (.array .int) := ⟨(RX8, TX8, 4), rfl, by decide, rfl, gw_mem 554 (by decide +kernel) rfl, iu_X8, ⟨tyX8, tyX8_ok⟩, nmX8, rfl, rfl, by decide +kernel⟩
theorem ff_X8_22 : FF RX8 22 8 3 (.array .int) := ⟨(RX8, TX8, 4), rfl, by decide, rfl, gw_mem 555 (by decide +kernel) rfl, iu_X8, ⟨tyX8, tyX8_ok⟩, nmX8, rfl, rfl, by decide +kernel⟩
theorem ol_X1_3 : Cond.methodLink RX1 3 objectInit ∈ gw := gw_mem 570 (by decide +kernel) rfl
theorem ff_X1_11 : FF RX1 11 1 0 (.array .int) := ⟨(RX1, TX1, 10), rfl, by decide, rfl, gw_mem 572 (by decide +kernel) rfl, iu_X1, ⟨tyX1, tyX1_ok⟩, nmX1, rfl, rfl, by decide +kernel⟩
theorem ff_X1_31 : FF RX1 31 1 6 (.array .int) := ⟨(RX1, TX1, 10), rfl, by decide, rfl, gw_mem 580 (by decide +kernel) rfl, iu_X1, ⟨tyX1, tyX1_ok⟩, nmX1, rfl, rfl, by decide +kernel⟩
theorem cl_X1_34 : Cond.classLink RX1 34 ("[" ++ (FieldType.array .int).toString) ∈ gw := gw_mem 571 (by decide +kernel) rfl
theorem ff_X1_36 : FF RX1 36 1 7 (.array (.array .int)) := ⟨(RX1, TX1, 10), rfl, by decide, rfl, gw_mem 581 (by decide +kernel) rfl, iu_X1, ⟨tyX1, tyX1_ok⟩, nmX1, rfl, rfl, by decide +kernel⟩
theorem ff_X1_39 : FF RX1 39 1 8 (.array (.array .int)) := ⟨(RX1, TX1, 10), rfl, by decide, rfl, gw_mem 582 (by decide +kernel) rfl, iu_X1, ⟨tyX1, tyX1_ok⟩, nmX1, rfl, rfl, by decide +kernel⟩
theorem ff_X1_42 : FF RX1 42 1 9 (.array (.array .int)) := ⟨(RX1, TX1, 10), rfl, by decide, rfl, gw_mem 583 (by decide +kernel) rfl, iu_X1, ⟨tyX1, tyX1_ok⟩, nmX1, rfl, rfl, by decide +kernel⟩
theorem ol_X6_3 : Cond.methodLink RX6 3 objectInit ∈ gw := gw_mem 610 (by decide +kernel) rfl
theorem ff_X6_15 : FF RX6 15 6 1 (.array .int) := ⟨(RX6, TX6, 5), rfl, by decide, rfl, gw_mem 614 (by decide +kernel) rfl, iu_X6, ⟨tyX6, tyX6_ok⟩, nmX6, rfl, rfl, by decide +kernel⟩
theorem cl_X6_22 : Cond.classLink RX6 22 ("[" ++ (FieldType.array .int).toString) ∈ gw := gw_mem 611 (by decide +kernel) rfl
theorem ff_X6_24 : FF RX6 24 6 3 (.array (.array .int)) := ⟨(RX6, TX6, 5), rfl, by decide, rfl, gw_mem 617 (by decide +kernel) rfl, iu_X6, ⟨tyX6, tyX6_ok⟩, nmX6, rfl, rfl, by decide +kernel⟩
theorem ff_X6_27 : FF RX6 27 6 4 (.array .int) := ⟨(RX6, TX6, 5), rfl, by decide, rfl, gw_mem 618 (by decide +kernel) rfl, iu_X6, ⟨tyX6, tyX6_ok⟩, nmX6, rfl, rfl, by decide +kernel⟩
theorem ol_X0_3 : Cond.methodLink RX0 3 objectInit ∈ gw := gw_mem 443 (by decide +kernel) rfl
theorem nl_X0_38 : NL RX0 38 2 := ⟨(RX2, TX2, 16), rfl, rfl, gw_mem 444 (by decide +kernel) rfl, gw_mem 145 (by decide +kernel) rfl, gw_mem 112 (by decide +kernel) rfl, iu_X2, tyX2, tyX2_ok, by decide +kernel⟩
theorem il_X0_40 : IL RX0 40 yX2_init cX2_init 1 ∨ IN RX0 40 yX2_init cX2_init 1 := Or.inr ⟨by decide +kernel, cd_X2_init, gw_mem 112 (by decide +kernel) rfl, gw_mem 147 (by decide +kernel) rfl, rfl, by decide, by decide, by decide +kernel⟩
theorem nl_X0_45 : NL RX0 45 7 := ⟨(RX7, TX7, 7), rfl, rfl, gw_mem 446 (by decide +kernel) rfl, gw_mem 389 (by decide +kernel) rfl, gw_mem 120 (by decide +kernel) rfl, iu_X7, tyX7, tyX7_ok, by decide +kernel⟩
theorem il_X0_47 : IL RX0 47 yX7_init cX7_init 1 ∨ IN RX0 47 yX7_init cX7_init 1 := Or.inl ⟨gw_mem 447 (by decide +kernel) rfl, cd_X7_init, gw_mem 120 (by decide +kernel) rfl, gw_mem 391 (by decide +kernel) rfl, rfl, by decide, by decide, by decide +kernel⟩
theorem ff_X0_55 : FF RX0 55 0 11 (.array .long) := ⟨(RX0, TX0, 17), rfl, by decide, rfl, gw_mem 470 (by decide +kernel) rfl, iu_X0, ⟨tyX0, tyX0_ok⟩, nmX0, rfl, rfl, by decide +kernel⟩
theorem ff_X0_59 : FF RX0 59 0 12 (.array .int) := ⟨(RX0, TX0, 17), rfl, by decide, rfl, gw_mem 471 (by decide +kernel) rfl, iu_X0, ⟨tyX0, tyX0_ok⟩, nmX0, rfl, rfl, by decide +kernel⟩
theorem ff_X0_63 : FF RX0 63 0 13 (.array .long) := ⟨(RX0, TX0, 17), rfl, by decide, rfl, gw_mem 472 (by decide +kernel) rfl, iu_X0, ⟨tyX0, tyX0_ok⟩, nmX0, rfl, rfl, by decide +kernel⟩
theorem ff_X0_66 : FF RX0 66 0 14 (.array .int) := ⟨(RX0, TX0, 17), rfl, by decide, rfl, gw_mem 473 (by decide +kernel) rfl, iu_X0, ⟨tyX0, tyX0_ok⟩, nmX0, rfl, rfl, by decide +kernel⟩
theorem kd_X3_1 {k : Nat} (h : kd k = (4, 3)) : kd (k + 1) = (0, 64) := by rcases ko_3 h with rfl | rfl | rfl | rfl | rfl | rfl | rfl | rfl | rfl <;> decide +kernel
theorem kd_X3_2 {k : Nat} (h : kd k = (4, 3)) : kd (k + 2) = (0, 64) := by rcases ko_3 h with rfl | rfl | rfl | rfl | rfl | rfl | rfl | rfl | rfl <;> decide +kernel
theorem kd_X3_3 {k : Nat} (h : kd k = (4, 3)) : kd (k + 3) = (2, 64) := by rcases ko_3 h with rfl | rfl | rfl | rfl | rfl | rfl | rfl | rfl | rfl <;> decide +kernel
theorem kb_X3 {k : Nat} (h : kd k = (4, 3)) : k + 4 ≤ 221 := by rcases ko_3 h with rfl | rfl | rfl | rfl | rfl | rfl | rfl | rfl | rfl <;> decide
def ri_X3 : Room := { frames := 1, cells := 3, slots := 192, locals := 20 }
set_option maxHeartbeats 4000000 in
set_option maxRecDepth 100000 in
theorem fin_X3 {k : Nat} (hk : kd k = (4, 3)) {z : Nat → Nat → Bool} {μ0 : fMem} (h0 : Z0 k μ0 z) : ∀ a, k ≤ a → a < k + 4 → (sI (sI (sI μ0 k 0 (0)) k 1 (0)) k 2 (0)).1 a = (mg μ0 ini k (k + 4)).1 a ∧ (sI (sI (sI μ0 k 0 (0)) k 1 (0)) k 2 (0)).2.1 a = (mg μ0 ini k (k + 4)).2.1 a ∧ ∀ ci, kd a = (4, ci) → ∀ j, j < fN ci → 3 ≤ ft ci j → (zs (zs (zs z k 3) k 4) k 5) a j = zm z k (k + 4) a j ∧ (4 ≤ ft ci j → (sI (sI (sI μ0 k 0 (0)) k 1 (0)) k 2 (0)).2.2 a j = (mg μ0 ini k (k + 4)).2.2 a j) := by
  intro a h1 h2
  have e1 : (mg μ0 ini k (k + 4)).1 a = iniI a := if_pos ⟨h1, h2⟩
  have e2 : (mg μ0 ini k (k + 4)).2.1 a = iniL a := if_pos ⟨h1, h2⟩
  have e3 : (mg μ0 ini k (k + 4)).2.2 a = iniR a := if_pos ⟨h1, h2⟩
  have e4 : ∀ j, zm z k (k + 4) a j = true := fun j => if_pos ⟨h1, h2⟩
  rw [e1, e2, e3]
  rcases (show a = k ∨ a = k + 1 ∨ a = k + 2 ∨ a = k + 3 by omega) with rfl | rfl | rfl | rfl
  · have z1 := (h0 a (Nat.le_refl _)).1
    have z2 := (h0 a (Nat.le_refl _)).2.1
    refine ⟨?_, ?_, fun ci hci j hj h3 => ?_⟩
    · funext j
      simp only [sI, sL, sR, sRow, sRowL, fu, mg, z1]
      rcases ko_3 hk with rfl | rfl | rfl | rfl | rfl | rfl | rfl | rfl | rfl <;> simp only [iniI] <;> (repeat (first | rfl | split | omega | simp_all))
    · funext j
      simp only [sI, sL, sR, sRow, sRowL, fu, mg, z2]
      rcases ko_3 hk with rfl | rfl | rfl | rfl | rfl | rfl | rfl | rfl | rfl <;> simp only [iniL] <;> (repeat (first | rfl | split | omega | simp_all))
    · rw [hk] at hci; cases hci
      rw [e4]
      rcases (show j = 0 ∨ j = 1 ∨ j = 2 ∨ j = 3 ∨ j = 4 ∨ j = 5 by simp only [fN] at hj; omega) with rfl | rfl | rfl | rfl | rfl | rfl
      all_goals first | exact absurd h3 (by decide) | skip
      all_goals refine ⟨by simp [zs, zm], fun h4 => ?_⟩
      all_goals first | exact absurd h4 (by decide) | skip
      all_goals (simp only [sI, sL, sR, sRow, sRowL, fu, mg]; rcases ko_3 hk with rfl | rfl | rfl | rfl | rfl | rfl | rfl | rfl | rfl <;> simp [iniR])
  · have z1 := (h0 (k + 1) (by omega)).1
    have z2 := (h0 (k + 1) (by omega)).2.1
    refine ⟨?_, ?_, fun ci hci j hj h3 => ?_⟩
    · funext j
      simp only [sI, sL, sR, sRow, sRowL, fu, mg, z1]
      rcases ko_3 hk with rfl | rfl | rfl | rfl | rfl | rfl | rfl | rfl | rfl <;> simp [iniI]
    · funext j
      simp only [sI, sL, sR, sRow, sRowL, fu, mg, z2]
      rcases ko_3 hk with rfl | rfl | rfl | rfl | rfl | rfl | rfl | rfl | rfl <;> simp [iniL]
    · exact (kd_ne4 (kd_X3_1 hk) (by decide) hci).elim
  · have z1 := (h0 (k + 2) (by omega)).1
    have z2 := (h0 (k + 2) (by omega)).2.1
    refine ⟨?_, ?_, fun ci hci j hj h3 => ?_⟩
    · funext j
      simp only [sI, sL, sR, sRow, sRowL, fu, mg, z1]
      rcases ko_3 hk with rfl | rfl | rfl | rfl | rfl | rfl | rfl | rfl | rfl <;> simp [iniI]
    · funext j
      simp only [sI, sL, sR, sRow, sRowL, fu, mg, z2]
      rcases ko_3 hk with rfl | rfl | rfl | rfl | rfl | rfl | rfl | rfl | rfl <;> simp [iniL]
    · exact (kd_ne4 (kd_X3_2 hk) (by decide) hci).elim
  · have z1 := (h0 (k + 3) (by omega)).1
    have z2 := (h0 (k + 3) (by omega)).2.1
    refine ⟨?_, ?_, fun ci hci j hj h3 => ?_⟩
    · funext j
      simp only [sI, sL, sR, sRow, sRowL, fu, mg, z1]
      rcases ko_3 hk with rfl | rfl | rfl | rfl | rfl | rfl | rfl | rfl | rfl <;> simp [iniI]
    · funext j
      simp only [sI, sL, sR, sRow, sRowL, fu, mg, z2]
      rcases ko_3 hk with rfl | rfl | rfl | rfl | rfl | rfl | rfl | rfl | rfl <;> simp [iniL]
    · exact (kd_ne4 (kd_X3_3 hk) (by decide) hci).elim
set_option maxHeartbeats 4000000 in
set_option maxRecDepth 100000 in
theorem k_X3 (l : Launch) (w : fW) (hAD : fAD w) (k : Nat) (hk : kd k = (4, 3)) (z : Nat → Nat → Bool) (μ0 : fMem) (h0 : Z0 k μ0 z) : Met l yX3_init (.code yX3_init cX3_init 1 none :: gw) ri_X3 (cPc w k z μ0) (cQ w k (k + 4) (zm z k (k + 4)) (mg μ0 ini k (k + 4))) 3 192 (fun q => w.2.2.1 k ≤ q) := by
  have hkb := kb_X3 hk
  refine cmet_of hAD (by decide) rfl ?_ (by decide)
  intro p e s m below meth c ls C hr hP hs0 hl hS
  obtain ⟨hx, hb, hml, hown, hts, hK, -, hlk, hT, hNs, -⟩ := id C
  have hsz := hs0
  have hZ : Z0 (k + 1) μ0 z := h0.mono (Nat.le_succ k)
  have hA : ∀ {n : Nat}, n ≤ 221 → ∀ a, k ≤ a → a < n → (fun q => w.2.2.1 k ≤ q) (w.2.2.1 a) := fun hn a h1 h2 => hAD.up (n := a) h1 (by omega) (Nat.le_refl _)
  refine lv_aload_n hx hb dX3_init_0 rfl (lv_at hl 0 rfl) ?_
  refine W.objInit hx hb hown (hts _ ol_X3_3) (hts _ oi.1) (hts _ oi.2) rfl (by rw [hml]; exact hl.1) rfl dX3_init_1 (by decide) (Nat.le_of_ble_eq_true rfl) ?_
  refine W.eq (g2 := F0 m 4 ls []) rfl ?_
  refine lv_aload_n hx hb dX3_init_4 rfl (lv_at hl 0 rfl) ?_
  refine lv_iconst (v := (0)) hx hb dX3_init_5 (by decide) ?_
  refine a_p0 C hP hS (hA (by omega)) (by omega) ⟨Nat.le_refl _, by omega⟩ hk fp_X3_9 (Or.inr ⟨rfl, rfl, Or.inl rfl⟩) dX3_init_6 (fun H locs hP hS hs9 => ?_)
  rw [hsz] at hs9
  have hsz := hs9
  have hZ : Z0 (k + 1) (sI μ0 k 0 (0)) z := hZ.sI (by omega)
  refine lv_aload_n hx hb dX3_init_9 rfl (lv_at hl 0 rfl) ?_
  refine lv_iconst (v := (0)) hx hb dX3_init_10 (by decide) ?_
  refine a_p0 C hP hS (hA (by omega)) (by omega) ⟨Nat.le_refl _, by omega⟩ hk fp_X3_15 (Or.inl ⟨rfl, rfl⟩) dX3_init_11 (fun H locs hP hS hs9 => ?_)
  rw [hsz] at hs9
  have hsz := hs9
  have hZ : Z0 (k + 1) (sI (sI μ0 k 0 (0)) k 1 (0)) z := hZ.sI (by omega)
  refine lv_aload_n hx hb dX3_init_14 rfl (lv_at hl 0 rfl) ?_
  refine lv_iconst (v := (0)) hx hb dX3_init_15 (by decide) ?_
  refine a_p0 C hP hS (hA (by omega)) (by omega) ⟨Nat.le_refl _, by omega⟩ hk fp_X3_19 (Or.inl ⟨rfl, rfl⟩) dX3_init_16 (fun H locs hP hS hs9 => ?_)
  rw [hsz] at hs9
  have hsz := hs9
  have hZ : Z0 (k + 1) (sI (sI (sI μ0 k 0 (0)) k 1 (0)) k 2 (0)) z := hZ.sI (by omega)
  refine lv_aload_n hx hb dX3_init_19 rfl (lv_at hl 0 rfl) ?_
  refine lv_bipush (v := (64)) hx hb dX3_init_20 (by decide) ?_
  refine a_newarr C hP hS hsz (by omega) (Or.inl ⟨rfl, rfl⟩) (kd_X3_1 hk) (by decide) (by decide) (by decide) ac_int (hZ (k + 1) (Nat.le_refl _)).1 (hZ (k + 1) (Nat.le_refl _)).2.1 (by decide) (by decide) dX3_init_22 (fun H hP hS hsz _ => ?_)
  have hP : fP (wz w k (k + 2) z) (sI (sI (sI μ0 k 0 (0)) k 1 (0)) k 2 (0)) H := hP
  have hsz : H.size = w.2.2.1 (k + 2) := hsz
  have hZ : Z0 (k + 2) (sI (sI (sI μ0 k 0 (0)) k 1 (0)) k 2 (0)) z := hZ.mono (by omega)
  refine a_p3 C hP hS (hA (by omega)) (by omega) (v := k + 1) ⟨Nat.le_refl _, by omega⟩ hk ff_X3_22 rfl rfl (fun _ => ⟨rfl, rfl⟩) rfl dX3_init_24 (fun H locs hP hS hs9 => ?_)
  rw [hsz] at hs9
  have hsz := hs9
  have hZ : Z0 (k + 2) (sI (sI (sI μ0 k 0 (0)) k 1 (0)) k 2 (0)) (zs z k 3) := hZ.zs (by omega)
  refine lv_aload_n hx hb dX3_init_27 rfl (lv_at hl 0 rfl) ?_
  refine lv_bipush (v := (64)) hx hb dX3_init_28 (by decide) ?_
  refine a_newarr C hP hS hsz (by omega) (Or.inl ⟨rfl, rfl⟩) (kd_X3_2 hk) (by decide) (by decide) (by decide) ac_int (hZ (k + 2) (Nat.le_refl _)).1 (hZ (k + 2) (Nat.le_refl _)).2.1 (by decide) (by decide) dX3_init_30 (fun H hP hS hsz _ => ?_)
  have hP : fP (wz w k (k + 3) (zs z k 3)) (sI (sI (sI μ0 k 0 (0)) k 1 (0)) k 2 (0)) H := hP
  have hsz : H.size = w.2.2.1 (k + 3) := hsz
  have hZ : Z0 (k + 3) (sI (sI (sI μ0 k 0 (0)) k 1 (0)) k 2 (0)) (zs z k 3) := hZ.mono (by omega)
  refine a_p3 C hP hS (hA (by omega)) (by omega) (v := k + 2) ⟨Nat.le_refl _, by omega⟩ hk ff_X3_26 rfl rfl (fun _ => ⟨rfl, rfl⟩) rfl dX3_init_32 (fun H locs hP hS hs9 => ?_)
  rw [hsz] at hs9
  have hsz := hs9
  have hZ : Z0 (k + 3) (sI (sI (sI μ0 k 0 (0)) k 1 (0)) k 2 (0)) (zs (zs z k 3) k 4) := hZ.zs (by omega)
  refine lv_aload_n hx hb dX3_init_35 rfl (lv_at hl 0 rfl) ?_
  refine lv_bipush (v := (64)) hx hb dX3_init_36 (by decide) ?_
  refine a_newarr C hP hS hsz (by omega) (Or.inr (Or.inr ⟨rfl, rfl⟩)) (kd_X3_3 hk) (by decide) (by decide) (by decide) ac_long (hZ (k + 3) (Nat.le_refl _)).1 (hZ (k + 3) (Nat.le_refl _)).2.1 (by decide) (by decide) dX3_init_38 (fun H hP hS hsz _ => ?_)
  have hP : fP (wz w k (k + 4) (zs (zs z k 3) k 4)) (sI (sI (sI μ0 k 0 (0)) k 1 (0)) k 2 (0)) H := hP
  have hsz : H.size = w.2.2.1 (k + 4) := hsz
  have hZ : Z0 (k + 4) (sI (sI (sI μ0 k 0 (0)) k 1 (0)) k 2 (0)) (zs (zs z k 3) k 4) := hZ.mono (by omega)
  refine a_p3 C hP hS (hA (by omega)) (by omega) (v := k + 3) ⟨Nat.le_refl _, by omega⟩ hk ff_X3_29 rfl rfl (fun _ => ⟨rfl, rfl⟩) rfl dX3_init_40 (fun H locs hP hS hs9 => ?_)
  rw [hsz] at hs9
  have hsz := hs9
  have hZ : Z0 (k + 4) (sI (sI (sI μ0 k 0 (0)) k 1 (0)) k 2 (0)) (zs (zs (zs z k 3) k 4) k 5) := hZ.zs (by omega)
  have hP : fP (wz w k (k + 4) (zm z k (k + 4))) (mg μ0 ini k (k + 4)) H := fP_congr (by omega) hP (fin_X3 hk h0)
  exact a_ret C hr hP hS hsz dX3_init_43
theorem kd_X2_1 {k : Nat} (h : kd k = (4, 2)) : kd (k + 1) = (0, 6) := by rcases ko_2 h with rfl | rfl | rfl <;> decide +kernel
theorem kd_X2_2 {k : Nat} (h : kd k = (4, 2)) : kd (k + 2) = (3, 4) := by rcases ko_2 h with rfl | rfl | rfl <;> decide +kernel
theorem kr_X2_2 {k : Nat} (h : kd k = (4, 2)) (i : Nat) (hi : i < 4) : kd (k + 2 + 1 + i) = (0, 8) := by
  revert i
  rcases ko_2 h with rfl | rfl | rfl <;> decide +kernel
theorem kd_X2_3 {k : Nat} (h : kd k = (4, 2)) : kd (k + 3) = (0, 8) := by rcases ko_2 h with rfl | rfl | rfl <;> decide +kernel
theorem kd_X2_4 {k : Nat} (h : kd k = (4, 2)) : kd (k + 4) = (0, 8) := by rcases ko_2 h with rfl | rfl | rfl <;> decide +kernel
theorem kd_X2_5 {k : Nat} (h : kd k = (4, 2)) : kd (k + 5) = (0, 8) := by rcases ko_2 h with rfl | rfl | rfl <;> decide +kernel
theorem kd_X2_6 {k : Nat} (h : kd k = (4, 2)) : kd (k + 6) = (0, 8) := by rcases ko_2 h with rfl | rfl | rfl <;> decide +kernel
theorem kd_X2_7 {k : Nat} (h : kd k = (4, 2)) : kd (k + 7) = (0, 6) := by rcases ko_2 h with rfl | rfl | rfl <;> decide +kernel
theorem kd_X2_8 {k : Nat} (h : kd k = (4, 2)) : kd (k + 8) = (0, 8) := by rcases ko_2 h with rfl | rfl | rfl <;> decide +kernel
theorem kd_X2_9 {k : Nat} (h : kd k = (4, 2)) : kd (k + 9) = (0, 8) := by rcases ko_2 h with rfl | rfl | rfl <;> decide +kernel
theorem kd_X2_10 {k : Nat} (h : kd k = (4, 2)) : kd (k + 10) = (0, 8) := by rcases ko_2 h with rfl | rfl | rfl <;> decide +kernel
theorem kd_X2_11 {k : Nat} (h : kd k = (4, 2)) : kd (k + 11) = (0, 6) := by rcases ko_2 h with rfl | rfl | rfl <;> decide +kernel
theorem kd_X2_12 {k : Nat} (h : kd k = (4, 2)) : kd (k + 12) = (0, 6) := by rcases ko_2 h with rfl | rfl | rfl <;> decide +kernel
theorem kd_X2_13 {k : Nat} (h : kd k = (4, 2)) : kd (k + 13) = (0, 6) := by rcases ko_2 h with rfl | rfl | rfl <;> decide +kernel
theorem kd_X2_14 {k : Nat} (h : kd k = (4, 2)) : kd (k + 14) = (0, 6) := by rcases ko_2 h with rfl | rfl | rfl <;> decide +kernel
theorem kd_X2_15 {k : Nat} (h : kd k = (4, 2)) : kd (k + 15) = (0, 9) := by rcases ko_2 h with rfl | rfl | rfl <;> decide +kernel
theorem kd_X2_16 {k : Nat} (h : kd k = (4, 2)) : kd (k + 16) = (4, 3) := by rcases ko_2 h with rfl | rfl | rfl <;> decide +kernel
theorem kd_X2_20 {k : Nat} (h : kd k = (4, 2)) : kd (k + 20) = (4, 3) := by rcases ko_2 h with rfl | rfl | rfl <;> decide +kernel
theorem kd_X2_24 {k : Nat} (h : kd k = (4, 2)) : kd (k + 24) = (4, 3) := by rcases ko_2 h with rfl | rfl | rfl <;> decide +kernel
theorem kb_X2 {k : Nat} (h : kd k = (4, 2)) : k + 28 ≤ 221 := by rcases ko_2 h with rfl | rfl | rfl <;> decide
def ri_X2 : Room := { frames := 2, cells := 27, slots := 699, locals := 40 }
set_option maxHeartbeats 4000000 in
set_option maxRecDepth 100000 in
theorem fin_X2 {k : Nat} (hk : kd k = (4, 2)) {z : Nat → Nat → Bool} {μ0 : fMem} (h0 : Z0 k μ0 z) : ∀ a, k ≤ a → a < k + 28 → (mg (mg (mg (sI (sI μ0 k 1 (0)) k 2 (0)) ini (k + 16) (k + 20)) ini (k + 20) (k + 24)) ini (k + 24) (k + 28)).1 a = (mg μ0 ini k (k + 28)).1 a ∧ (mg (mg (mg (sI (sI μ0 k 1 (0)) k 2 (0)) ini (k + 16) (k + 20)) ini (k + 20) (k + 24)) ini (k + 24) (k + 28)).2.1 a = (mg μ0 ini k (k + 28)).2.1 a ∧ ∀ ci, kd a = (4, ci) → ∀ j, j < fN ci → 3 ≤ ft ci j → (zs (zm (zs (zm (zs (zm (zs (zs (zs (zs (zs (zs (zs (zs (zs (zs (zs z k 0) k 3) k 4) k 5) k 6) k 7) k 8) k 9) k 10) k 11) k 12) (k + 16) (k + 20)) k 13) (k + 20) (k + 24)) k 14) (k + 24) (k + 28)) k 15) a j = zm z k (k + 28) a j ∧ (4 ≤ ft ci j → (mg (mg (mg (sI (sI μ0 k 1 (0)) k 2 (0)) ini (k + 16) (k + 20)) ini (k + 20) (k + 24)) ini (k + 24) (k + 28)).2.2 a j = (mg μ0 ini k (k + 28)).2.2 a j) := by
  intro a h1 h2
  have e1 : (mg μ0 ini k (k + 28)).1 a = iniI a := if_pos ⟨h1, h2⟩
  have e2 : (mg μ0 ini k (k + 28)).2.1 a = iniL a := if_pos ⟨h1, h2⟩
  have e3 : (mg μ0 ini k (k + 28)).2.2 a = iniR a := if_pos ⟨h1, h2⟩
  have e4 : ∀ j, zm z k (k + 28) a j = true := fun j => if_pos ⟨h1, h2⟩
  rw [e1, e2, e3]
  rcases (show a = k ∨ a = k + 1 ∨ a = k + 2 ∨ a = k + 3 ∨ a = k + 4 ∨ a = k + 5 ∨ a = k + 6 ∨ a = k + 7 ∨ a = k + 8 ∨ a = k + 9 ∨ a = k + 10 ∨ a = k + 11 ∨ a = k + 12 ∨ a = k + 13 ∨ a = k + 14 ∨ a = k + 15 ∨ (k + 16 ≤ a ∧ a < k + 20) ∨ (k + 20 ≤ a ∧ a < k + 24) ∨ (k + 24 ≤ a ∧ a < k + 28) by omega) with rfl | rfl | rfl | rfl | rfl | rfl | rfl | rfl | rfl | rfl | rfl | rfl | rfl | rfl | rfl | rfl | ⟨g1, g2⟩ | ⟨g1, g2⟩ | ⟨g1, g2⟩
  · have z1 := (h0 a (Nat.le_refl _)).1
    have z2 := (h0 a (Nat.le_refl _)).2.1
    refine ⟨?_, ?_, fun ci hci j hj h3 => ?_⟩
    · funext j
      simp only [sI, sL, sR, sRow, sRowL, fu, mg, z1]
      rcases ko_2 hk with rfl | rfl | rfl <;> simp only [iniI] <;> (repeat (first | rfl | split | omega | simp_all))
    · funext j
      simp only [sI, sL, sR, sRow, sRowL, fu, mg, z2]
      rcases ko_2 hk with rfl | rfl | rfl <;> simp only [iniL] <;> (repeat (first | rfl | split | omega | simp_all))
    · rw [hk] at hci; cases hci
      rw [e4]
      rcases (show j = 0 ∨ j = 1 ∨ j = 2 ∨ j = 3 ∨ j = 4 ∨ j = 5 ∨ j = 6 ∨ j = 7 ∨ j = 8 ∨ j = 9 ∨ j = 10 ∨ j = 11 ∨ j = 12 ∨ j = 13 ∨ j = 14 ∨ j = 15 by simp only [fN] at hj; omega) with rfl | rfl | rfl | rfl | rfl | rfl | rfl | rfl | rfl | rfl | rfl | rfl | rfl | rfl | rfl | rfl
      all_goals first | exact absurd h3 (by decide) | skip
      all_goals refine ⟨by simp [zs, zm], fun h4 => ?_⟩
      all_goals first | exact absurd h4 (by decide) | skip
      all_goals (simp only [sI, sL, sR, sRow, sRowL, fu, mg]; rcases ko_2 hk with rfl | rfl | rfl <;> simp [iniR])
  · have z1 := (h0 (k + 1) (by omega)).1
    have z2 := (h0 (k + 1) (by omega)).2.1
    refine ⟨?_, ?_, fun ci hci j hj h3 => ?_⟩
    · funext j
      simp only [sI, sL, sR, sRow, sRowL, fu, mg, z1]
      rcases ko_2 hk with rfl | rfl | rfl <;> simp [iniI]
    · funext j
      simp only [sI, sL, sR, sRow, sRowL, fu, mg, z2]
      rcases ko_2 hk with rfl | rfl | rfl <;> simp [iniL]
    · exact (kd_ne4 (kd_X2_1 hk) (by decide) hci).elim
  · have z1 := (h0 (k + 2) (by omega)).1
    have z2 := (h0 (k + 2) (by omega)).2.1
    refine ⟨?_, ?_, fun ci hci j hj h3 => ?_⟩
    · funext j
      simp only [sI, sL, sR, sRow, sRowL, fu, mg, z1]
      rcases ko_2 hk with rfl | rfl | rfl <;> simp [iniI]
    · funext j
      simp only [sI, sL, sR, sRow, sRowL, fu, mg, z2]
      rcases ko_2 hk with rfl | rfl | rfl <;> simp [iniL]
    · exact (kd_ne4 (kd_X2_2 hk) (by decide) hci).elim
  · have z1 := (h0 (k + 3) (by omega)).1
    have z2 := (h0 (k + 3) (by omega)).2.1
    refine ⟨?_, ?_, fun ci hci j hj h3 => ?_⟩
    · funext j
      simp only [sI, sL, sR, sRow, sRowL, fu, mg, z1]
      rcases ko_2 hk with rfl | rfl | rfl <;> simp [iniI]
    · funext j
      simp only [sI, sL, sR, sRow, sRowL, fu, mg, z2]
      rcases ko_2 hk with rfl | rfl | rfl <;> simp [iniL]
    · exact (kd_ne4 (kd_X2_3 hk) (by decide) hci).elim
  · have z1 := (h0 (k + 4) (by omega)).1
    have z2 := (h0 (k + 4) (by omega)).2.1
    refine ⟨?_, ?_, fun ci hci j hj h3 => ?_⟩
    · funext j
      simp only [sI, sL, sR, sRow, sRowL, fu, mg, z1]
      rcases ko_2 hk with rfl | rfl | rfl <;> simp [iniI]
    · funext j
      simp only [sI, sL, sR, sRow, sRowL, fu, mg, z2]
      rcases ko_2 hk with rfl | rfl | rfl <;> simp [iniL]
    · exact (kd_ne4 (kd_X2_4 hk) (by decide) hci).elim
  · have z1 := (h0 (k + 5) (by omega)).1
    have z2 := (h0 (k + 5) (by omega)).2.1
    refine ⟨?_, ?_, fun ci hci j hj h3 => ?_⟩
    · funext j
      simp only [sI, sL, sR, sRow, sRowL, fu, mg, z1]
      rcases ko_2 hk with rfl | rfl | rfl <;> simp [iniI]
    · funext j
      simp only [sI, sL, sR, sRow, sRowL, fu, mg, z2]
      rcases ko_2 hk with rfl | rfl | rfl <;> simp [iniL]
    · exact (kd_ne4 (kd_X2_5 hk) (by decide) hci).elim
  · have z1 := (h0 (k + 6) (by omega)).1
    have z2 := (h0 (k + 6) (by omega)).2.1
    refine ⟨?_, ?_, fun ci hci j hj h3 => ?_⟩
    · funext j
      simp only [sI, sL, sR, sRow, sRowL, fu, mg, z1]
      rcases ko_2 hk with rfl | rfl | rfl <;> simp [iniI]
    · funext j
      simp only [sI, sL, sR, sRow, sRowL, fu, mg, z2]
      rcases ko_2 hk with rfl | rfl | rfl <;> simp [iniL]
    · exact (kd_ne4 (kd_X2_6 hk) (by decide) hci).elim
  · have z1 := (h0 (k + 7) (by omega)).1
    have z2 := (h0 (k + 7) (by omega)).2.1
    refine ⟨?_, ?_, fun ci hci j hj h3 => ?_⟩
    · funext j
      simp only [sI, sL, sR, sRow, sRowL, fu, mg, z1]
      rcases ko_2 hk with rfl | rfl | rfl <;> simp [iniI]
    · funext j
      simp only [sI, sL, sR, sRow, sRowL, fu, mg, z2]
      rcases ko_2 hk with rfl | rfl | rfl <;> simp [iniL]
    · exact (kd_ne4 (kd_X2_7 hk) (by decide) hci).elim
  · have z1 := (h0 (k + 8) (by omega)).1
    have z2 := (h0 (k + 8) (by omega)).2.1
    refine ⟨?_, ?_, fun ci hci j hj h3 => ?_⟩
    · funext j
      simp only [sI, sL, sR, sRow, sRowL, fu, mg, z1]
      rcases ko_2 hk with rfl | rfl | rfl <;> simp [iniI]
    · funext j
      simp only [sI, sL, sR, sRow, sRowL, fu, mg, z2]
      rcases ko_2 hk with rfl | rfl | rfl <;> simp [iniL]
    · exact (kd_ne4 (kd_X2_8 hk) (by decide) hci).elim
  · have z1 := (h0 (k + 9) (by omega)).1
    have z2 := (h0 (k + 9) (by omega)).2.1
    refine ⟨?_, ?_, fun ci hci j hj h3 => ?_⟩
    · funext j
      simp only [sI, sL, sR, sRow, sRowL, fu, mg, z1]
      rcases ko_2 hk with rfl | rfl | rfl <;> simp [iniI]
    · funext j
      simp only [sI, sL, sR, sRow, sRowL, fu, mg, z2]
      rcases ko_2 hk with rfl | rfl | rfl <;> simp [iniL]
    · exact (kd_ne4 (kd_X2_9 hk) (by decide) hci).elim
  · have z1 := (h0 (k + 10) (by omega)).1
    have z2 := (h0 (k + 10) (by omega)).2.1
    refine ⟨?_, ?_, fun ci hci j hj h3 => ?_⟩
    · funext j
      simp only [sI, sL, sR, sRow, sRowL, fu, mg, z1]
      rcases ko_2 hk with rfl | rfl | rfl <;> simp [iniI]
    · funext j
      simp only [sI, sL, sR, sRow, sRowL, fu, mg, z2]
      rcases ko_2 hk with rfl | rfl | rfl <;> simp [iniL]
    · exact (kd_ne4 (kd_X2_10 hk) (by decide) hci).elim
  · have z1 := (h0 (k + 11) (by omega)).1
    have z2 := (h0 (k + 11) (by omega)).2.1
    refine ⟨?_, ?_, fun ci hci j hj h3 => ?_⟩
    · funext j
      simp only [sI, sL, sR, sRow, sRowL, fu, mg, z1]
      rcases ko_2 hk with rfl | rfl | rfl <;> simp [iniI]
    · funext j
      simp only [sI, sL, sR, sRow, sRowL, fu, mg, z2]
      rcases ko_2 hk with rfl | rfl | rfl <;> simp [iniL]
    · exact (kd_ne4 (kd_X2_11 hk) (by decide) hci).elim
  · have z1 := (h0 (k + 12) (by omega)).1
    have z2 := (h0 (k + 12) (by omega)).2.1
    refine ⟨?_, ?_, fun ci hci j hj h3 => ?_⟩
    · funext j
      simp only [sI, sL, sR, sRow, sRowL, fu, mg, z1]
      rcases ko_2 hk with rfl | rfl | rfl <;> simp [iniI]
    · funext j
      simp only [sI, sL, sR, sRow, sRowL, fu, mg, z2]
      rcases ko_2 hk with rfl | rfl | rfl <;> simp [iniL]
    · exact (kd_ne4 (kd_X2_12 hk) (by decide) hci).elim
  · have z1 := (h0 (k + 13) (by omega)).1
    have z2 := (h0 (k + 13) (by omega)).2.1
    refine ⟨?_, ?_, fun ci hci j hj h3 => ?_⟩
    · funext j
      simp only [sI, sL, sR, sRow, sRowL, fu, mg, z1]
      rcases ko_2 hk with rfl | rfl | rfl <;> simp [iniI]
    · funext j
      simp only [sI, sL, sR, sRow, sRowL, fu, mg, z2]
      rcases ko_2 hk with rfl | rfl | rfl <;> simp [iniL]
    · exact (kd_ne4 (kd_X2_13 hk) (by decide) hci).elim
  · have z1 := (h0 (k + 14) (by omega)).1
    have z2 := (h0 (k + 14) (by omega)).2.1
    refine ⟨?_, ?_, fun ci hci j hj h3 => ?_⟩
    · funext j
      simp only [sI, sL, sR, sRow, sRowL, fu, mg, z1]
      rcases ko_2 hk with rfl | rfl | rfl <;> simp [iniI]
    · funext j
      simp only [sI, sL, sR, sRow, sRowL, fu, mg, z2]
      rcases ko_2 hk with rfl | rfl | rfl <;> simp [iniL]
    · exact (kd_ne4 (kd_X2_14 hk) (by decide) hci).elim
  · have z1 := (h0 (k + 15) (by omega)).1
    have z2 := (h0 (k + 15) (by omega)).2.1
    refine ⟨?_, ?_, fun ci hci j hj h3 => ?_⟩
    · funext j
      simp only [sI, sL, sR, sRow, sRowL, fu, mg, z1]
      rcases ko_2 hk with rfl | rfl | rfl <;> simp [iniI]
    · funext j
      simp only [sI, sL, sR, sRow, sRowL, fu, mg, z2]
      rcases ko_2 hk with rfl | rfl | rfl <;> simp [iniL]
    · exact (kd_ne4 (kd_X2_15 hk) (by decide) hci).elim
  · refine ⟨?_, ?_, fun ci hci j hj h3 => ?_⟩
    · funext j
      simp only [sI, sL, sR, sRow, sRowL, fu, mg]
      simp [g1, g2, ini, show ¬ a = k by omega]
    · funext j
      simp only [sI, sL, sR, sRow, sRowL, fu, mg]
      simp [g1, g2, ini, show ¬ a = k by omega]
    · rw [e4]
      refine ⟨?_, fun _ => ?_⟩
      · simp [zs, zm, g1, g2]
      · simp only [sI, sL, sR, sRow, sRowL, fu, mg]
        simp [g1, g2, ini, show ¬ a = k by omega]
  · refine ⟨?_, ?_, fun ci hci j hj h3 => ?_⟩
    · funext j
      simp only [sI, sL, sR, sRow, sRowL, fu, mg]
      simp [g1, g2, ini, show ¬ a = k by omega]
    · funext j
      simp only [sI, sL, sR, sRow, sRowL, fu, mg]
      simp [g1, g2, ini, show ¬ a = k by omega]
    · rw [e4]
      refine ⟨?_, fun _ => ?_⟩
      · simp [zs, zm, g1, g2]
      · simp only [sI, sL, sR, sRow, sRowL, fu, mg]
        simp [g1, g2, ini, show ¬ a = k by omega]
  · refine ⟨?_, ?_, fun ci hci j hj h3 => ?_⟩
    · funext j
      simp only [sI, sL, sR, sRow, sRowL, fu, mg]
      simp [g1, g2, ini, show ¬ a = k by omega]
    · funext j
      simp only [sI, sL, sR, sRow, sRowL, fu, mg]
      simp [g1, g2, ini, show ¬ a = k by omega]
    · rw [e4]
      refine ⟨?_, fun _ => ?_⟩
      · simp [zs, zm, g1, g2]
      · simp only [sI, sL, sR, sRow, sRowL, fu, mg]
        simp [g1, g2, ini, show ¬ a = k by omega]
set_option maxHeartbeats 4000000 in
set_option maxRecDepth 100000 in
theorem k_X2 (l : Launch) (w : fW) (hAD : fAD w) (k : Nat) (hk : kd k = (4, 2)) (z : Nat → Nat → Bool) (μ0 : fMem) (h0 : Z0 k μ0 z) : Met l yX2_init (.code yX2_init cX2_init 1 none :: gw) ri_X2 (cPc w k z μ0) (cQ w k (k + 28) (zm z k (k + 28)) (mg μ0 ini k (k + 28))) 27 699 (fun q => w.2.2.1 k ≤ q) := by
  have hkb := kb_X2 hk
  refine cmet_of hAD (by decide) rfl ?_ (by decide)
  intro p e s m below meth c ls C hr hP hs0 hl hS
  obtain ⟨hx, hb, hml, hown, hts, hK, -, hlk, hT, hNs, -⟩ := id C
  have hsz := hs0
  have hZ : Z0 (k + 1) μ0 z := h0.mono (Nat.le_succ k)
  have hA : ∀ {n : Nat}, n ≤ 221 → ∀ a, k ≤ a → a < n → (fun q => w.2.2.1 k ≤ q) (w.2.2.1 a) := fun hn a h1 h2 => hAD.up (n := a) h1 (by omega) (Nat.le_refl _)
  refine lv_aload_n hx hb dX2_init_0 rfl (lv_at hl 0 rfl) ?_
  refine W.objInit hx hb hown (hts _ ol_X2_3) (hts _ oi.1) (hts _ oi.2) rfl (by rw [hml]; exact hl.1) rfl dX2_init_1 (by decide) (Nat.le_of_ble_eq_true rfl) ?_
  refine W.eq (g2 := F0 m 4 ls []) rfl ?_
  refine lv_aload_n hx hb dX2_init_4 rfl (lv_at hl 0 rfl) ?_
  refine lv_bipush (v := (6)) hx hb dX2_init_5 (by decide) ?_
  refine a_newarr C hP hS hsz (by omega) (Or.inl ⟨rfl, rfl⟩) (kd_X2_1 hk) (by decide) (by decide) (by decide) ac_int (hZ (k + 1) (Nat.le_refl _)).1 (hZ (k + 1) (Nat.le_refl _)).2.1 (by decide) (by decide) dX2_init_7 (fun H hP hS hsz _ => ?_)
  have hP : fP (wz w k (k + 2) z) μ0 H := hP
  have hsz : H.size = w.2.2.1 (k + 2) := hsz
  have hZ : Z0 (k + 2) μ0 z := hZ.mono (by omega)
  refine a_p3 C hP hS (hA (by omega)) (by omega) (v := k + 1) ⟨Nat.le_refl _, by omega⟩ hk ff_X2_9 rfl rfl (fun _ => ⟨rfl, rfl⟩) rfl dX2_init_9 (fun H locs hP hS hs9 => ?_)
  rw [hsz] at hs9
  have hsz := hs9
  have hZ : Z0 (k + 2) μ0 (zs z k 0) := hZ.zs (by omega)
  refine lv_aload_n hx hb dX2_init_12 rfl (lv_at hl 0 rfl) ?_
  refine lv_iconst (v := (0)) hx hb dX2_init_13 (by decide) ?_
  refine a_p0 C hP hS (hA (by omega)) (by omega) ⟨Nat.le_refl _, by omega⟩ hk fp_X2_15 (Or.inl ⟨rfl, rfl⟩) dX2_init_14 (fun H locs hP hS hs9 => ?_)
  rw [hsz] at hs9
  have hsz := hs9
  have hZ : Z0 (k + 2) (sI μ0 k 1 (0)) (zs z k 0) := hZ.sI (by omega)
  refine lv_aload_n hx hb dX2_init_17 rfl (lv_at hl 0 rfl) ?_
  refine lv_iconst (v := (0)) hx hb dX2_init_18 (by decide) ?_
  refine a_p0 C hP hS (hA (by omega)) (by omega) ⟨Nat.le_refl _, by omega⟩ hk fp_X2_19 (Or.inl ⟨rfl, rfl⟩) dX2_init_19 (fun H locs hP hS hs9 => ?_)
  rw [hsz] at hs9
  have hsz := hs9
  have hZ : Z0 (k + 2) (sI (sI μ0 k 1 (0)) k 2 (0)) (zs z k 0) := hZ.sI (by omega)
  refine lv_aload_n hx hb dX2_init_22 rfl (lv_at hl 0 rfl) ?_
  refine lv_iconst (v := (4)) hx hb dX2_init_23 (by decide) ?_
  refine lv_bipush (v := (8)) hx hb dX2_init_24 (by decide) ?_
  refine a_mna (N := 4) (M := 8) C hP hS hsz (by omega) (kd_X2_2 hk) (fun i hi => kr_X2_2 hk i hi) (by decide) (by decide) (by decide) (by decide) (by decide) (by decide) cl_X2_22 ac_int (fun i _ => (hZ (k + 2 + 1 + i) (by omega)).1) (by decide) (by decide) dX2_init_26 (fun H hP hS hsz _ => ?_)
  have hP : fP (wz w k (k + 7) (zs z k 0)) (sI (sI μ0 k 1 (0)) k 2 (0)) H := hP
  have hsz : H.size = w.2.2.1 (k + 7) := hsz
  have hZ : Z0 (k + 7) (sI (sI μ0 k 1 (0)) k 2 (0)) (zs z k 0) := hZ.mono (by omega)
  refine a_p3 C hP hS (hA (by omega)) (by omega) (v := k + 2) ⟨Nat.le_refl _, by omega⟩ hk ff_X2_24 rfl rfl (fun _ => ⟨rfl, rfl⟩) rfl dX2_init_30 (fun H locs hP hS hs9 => ?_)
  rw [hsz] at hs9
  have hsz := hs9
  have hZ : Z0 (k + 7) (sI (sI μ0 k 1 (0)) k 2 (0)) (zs (zs z k 0) k 3) := hZ.zs (by omega)
  refine lv_aload_n hx hb dX2_init_33 rfl (lv_at hl 0 rfl) ?_
  refine lv_bipush (v := (6)) hx hb dX2_init_34 (by decide) ?_
  refine a_newarr C hP hS hsz (by omega) (Or.inl ⟨rfl, rfl⟩) (kd_X2_7 hk) (by decide) (by decide) (by decide) ac_int (hZ (k + 7) (Nat.le_refl _)).1 (hZ (k + 7) (Nat.le_refl _)).2.1 (by decide) (by decide) dX2_init_36 (fun H hP hS hsz _ => ?_)
  have hP : fP (wz w k (k + 8) (zs (zs z k 0) k 3)) (sI (sI μ0 k 1 (0)) k 2 (0)) H := hP
  have hsz : H.size = w.2.2.1 (k + 8) := hsz
  have hZ : Z0 (k + 8) (sI (sI μ0 k 1 (0)) k 2 (0)) (zs (zs z k 0) k 3) := hZ.mono (by omega)
  refine a_p3 C hP hS (hA (by omega)) (by omega) (v := k + 7) ⟨Nat.le_refl _, by omega⟩ hk ff_X2_27 rfl rfl (fun _ => ⟨rfl, rfl⟩) rfl dX2_init_38 (fun H locs hP hS hs9 => ?_)
  rw [hsz] at hs9
  have hsz := hs9
  have hZ : Z0 (k + 8) (sI (sI μ0 k 1 (0)) k 2 (0)) (zs (zs (zs z k 0) k 3) k 4) := hZ.zs (by omega)
  refine lv_aload_n hx hb dX2_init_41 rfl (lv_at hl 0 rfl) ?_
  refine lv_bipush (v := (8)) hx hb dX2_init_42 (by decide) ?_
  refine a_newarr C hP hS hsz (by omega) (Or.inl ⟨rfl, rfl⟩) (kd_X2_8 hk) (by decide) (by decide) (by decide) ac_int (hZ (k + 8) (Nat.le_refl _)).1 (hZ (k + 8) (Nat.le_refl _)).2.1 (by decide) (by decide) dX2_init_44 (fun H hP hS hsz _ => ?_)
  have hP : fP (wz w k (k + 9) (zs (zs (zs z k 0) k 3) k 4)) (sI (sI μ0 k 1 (0)) k 2 (0)) H := hP
  have hsz : H.size = w.2.2.1 (k + 9) := hsz
  have hZ : Z0 (k + 9) (sI (sI μ0 k 1 (0)) k 2 (0)) (zs (zs (zs z k 0) k 3) k 4) := hZ.mono (by omega)
  refine a_p3 C hP hS (hA (by omega)) (by omega) (v := k + 8) ⟨Nat.le_refl _, by omega⟩ hk ff_X2_30 rfl rfl (fun _ => ⟨rfl, rfl⟩) rfl dX2_init_46 (fun H locs hP hS hs9 => ?_)
  rw [hsz] at hs9
  have hsz := hs9
  have hZ : Z0 (k + 9) (sI (sI μ0 k 1 (0)) k 2 (0)) (zs (zs (zs (zs z k 0) k 3) k 4) k 5) := hZ.zs (by omega)
  refine lv_aload_n hx hb dX2_init_49 rfl (lv_at hl 0 rfl) ?_
  refine lv_bipush (v := (8)) hx hb dX2_init_50 (by decide) ?_
  refine a_newarr C hP hS hsz (by omega) (Or.inl ⟨rfl, rfl⟩) (kd_X2_9 hk) (by decide) (by decide) (by decide) ac_int (hZ (k + 9) (Nat.le_refl _)).1 (hZ (k + 9) (Nat.le_refl _)).2.1 (by decide) (by decide) dX2_init_52 (fun H hP hS hsz _ => ?_)
  have hP : fP (wz w k (k + 10) (zs (zs (zs (zs z k 0) k 3) k 4) k 5)) (sI (sI μ0 k 1 (0)) k 2 (0)) H := hP
  have hsz : H.size = w.2.2.1 (k + 10) := hsz
  have hZ : Z0 (k + 10) (sI (sI μ0 k 1 (0)) k 2 (0)) (zs (zs (zs (zs z k 0) k 3) k 4) k 5) := hZ.mono (by omega)
  refine a_p3 C hP hS (hA (by omega)) (by omega) (v := k + 9) ⟨Nat.le_refl _, by omega⟩ hk ff_X2_33 rfl rfl (fun _ => ⟨rfl, rfl⟩) rfl dX2_init_54 (fun H locs hP hS hs9 => ?_)
  rw [hsz] at hs9
  have hsz := hs9
  have hZ : Z0 (k + 10) (sI (sI μ0 k 1 (0)) k 2 (0)) (zs (zs (zs (zs (zs z k 0) k 3) k 4) k 5) k 6) := hZ.zs (by omega)
  refine lv_aload_n hx hb dX2_init_57 rfl (lv_at hl 0 rfl) ?_
  refine lv_bipush (v := (8)) hx hb dX2_init_58 (by decide) ?_
  refine a_newarr C hP hS hsz (by omega) (Or.inl ⟨rfl, rfl⟩) (kd_X2_10 hk) (by decide) (by decide) (by decide) ac_int (hZ (k + 10) (Nat.le_refl _)).1 (hZ (k + 10) (Nat.le_refl _)).2.1 (by decide) (by decide) dX2_init_60 (fun H hP hS hsz _ => ?_)
  have hP : fP (wz w k (k + 11) (zs (zs (zs (zs (zs z k 0) k 3) k 4) k 5) k 6)) (sI (sI μ0 k 1 (0)) k 2 (0)) H := hP
  have hsz : H.size = w.2.2.1 (k + 11) := hsz
  have hZ : Z0 (k + 11) (sI (sI μ0 k 1 (0)) k 2 (0)) (zs (zs (zs (zs (zs z k 0) k 3) k 4) k 5) k 6) := hZ.mono (by omega)
  refine a_p3 C hP hS (hA (by omega)) (by omega) (v := k + 10) ⟨Nat.le_refl _, by omega⟩ hk ff_X2_36 rfl rfl (fun _ => ⟨rfl, rfl⟩) rfl dX2_init_62 (fun H locs hP hS hs9 => ?_)
  rw [hsz] at hs9
  have hsz := hs9
  have hZ : Z0 (k + 11) (sI (sI μ0 k 1 (0)) k 2 (0)) (zs (zs (zs (zs (zs (zs z k 0) k 3) k 4) k 5) k 6) k 7) := hZ.zs (by omega)
  refine lv_aload_n hx hb dX2_init_65 rfl (lv_at hl 0 rfl) ?_
  refine lv_bipush (v := (6)) hx hb dX2_init_66 (by decide) ?_
  refine a_newarr C hP hS hsz (by omega) (Or.inl ⟨rfl, rfl⟩) (kd_X2_11 hk) (by decide) (by decide) (by decide) ac_int (hZ (k + 11) (Nat.le_refl _)).1 (hZ (k + 11) (Nat.le_refl _)).2.1 (by decide) (by decide) dX2_init_68 (fun H hP hS hsz _ => ?_)
  have hP : fP (wz w k (k + 12) (zs (zs (zs (zs (zs (zs z k 0) k 3) k 4) k 5) k 6) k 7)) (sI (sI μ0 k 1 (0)) k 2 (0)) H := hP
  have hsz : H.size = w.2.2.1 (k + 12) := hsz
  have hZ : Z0 (k + 12) (sI (sI μ0 k 1 (0)) k 2 (0)) (zs (zs (zs (zs (zs (zs z k 0) k 3) k 4) k 5) k 6) k 7) := hZ.mono (by omega)
  refine a_p3 C hP hS (hA (by omega)) (by omega) (v := k + 11) ⟨Nat.le_refl _, by omega⟩ hk ff_X2_39 rfl rfl (fun _ => ⟨rfl, rfl⟩) rfl dX2_init_70 (fun H locs hP hS hs9 => ?_)
  rw [hsz] at hs9
  have hsz := hs9
  have hZ : Z0 (k + 12) (sI (sI μ0 k 1 (0)) k 2 (0)) (zs (zs (zs (zs (zs (zs (zs z k 0) k 3) k 4) k 5) k 6) k 7) k 8) := hZ.zs (by omega)
  refine lv_aload_n hx hb dX2_init_73 rfl (lv_at hl 0 rfl) ?_
  refine lv_bipush (v := (6)) hx hb dX2_init_74 (by decide) ?_
  refine a_newarr C hP hS hsz (by omega) (Or.inl ⟨rfl, rfl⟩) (kd_X2_12 hk) (by decide) (by decide) (by decide) ac_int (hZ (k + 12) (Nat.le_refl _)).1 (hZ (k + 12) (Nat.le_refl _)).2.1 (by decide) (by decide) dX2_init_76 (fun H hP hS hsz _ => ?_)
  have hP : fP (wz w k (k + 13) (zs (zs (zs (zs (zs (zs (zs z k 0) k 3) k 4) k 5) k 6) k 7) k 8)) (sI (sI μ0 k 1 (0)) k 2 (0)) H := hP
  have hsz : H.size = w.2.2.1 (k + 13) := hsz
  have hZ : Z0 (k + 13) (sI (sI μ0 k 1 (0)) k 2 (0)) (zs (zs (zs (zs (zs (zs (zs z k 0) k 3) k 4) k 5) k 6) k 7) k 8) := hZ.mono (by omega)
  refine a_p3 C hP hS (hA (by omega)) (by omega) (v := k + 12) ⟨Nat.le_refl _, by omega⟩ hk ff_X2_42 rfl rfl (fun _ => ⟨rfl, rfl⟩) rfl dX2_init_78 (fun H locs hP hS hs9 => ?_)
  rw [hsz] at hs9
  have hsz := hs9
  have hZ : Z0 (k + 13) (sI (sI μ0 k 1 (0)) k 2 (0)) (zs (zs (zs (zs (zs (zs (zs (zs z k 0) k 3) k 4) k 5) k 6) k 7) k 8) k 9) := hZ.zs (by omega)
  refine lv_aload_n hx hb dX2_init_81 rfl (lv_at hl 0 rfl) ?_
  refine lv_bipush (v := (6)) hx hb dX2_init_82 (by decide) ?_
  refine a_newarr C hP hS hsz (by omega) (Or.inl ⟨rfl, rfl⟩) (kd_X2_13 hk) (by decide) (by decide) (by decide) ac_int (hZ (k + 13) (Nat.le_refl _)).1 (hZ (k + 13) (Nat.le_refl _)).2.1 (by decide) (by decide) dX2_init_84 (fun H hP hS hsz _ => ?_)
  have hP : fP (wz w k (k + 14) (zs (zs (zs (zs (zs (zs (zs (zs z k 0) k 3) k 4) k 5) k 6) k 7) k 8) k 9)) (sI (sI μ0 k 1 (0)) k 2 (0)) H := hP
  have hsz : H.size = w.2.2.1 (k + 14) := hsz
  have hZ : Z0 (k + 14) (sI (sI μ0 k 1 (0)) k 2 (0)) (zs (zs (zs (zs (zs (zs (zs (zs z k 0) k 3) k 4) k 5) k 6) k 7) k 8) k 9) := hZ.mono (by omega)
  refine a_p3 C hP hS (hA (by omega)) (by omega) (v := k + 13) ⟨Nat.le_refl _, by omega⟩ hk ff_X2_45 rfl rfl (fun _ => ⟨rfl, rfl⟩) rfl dX2_init_86 (fun H locs hP hS hs9 => ?_)
  rw [hsz] at hs9
  have hsz := hs9
  have hZ : Z0 (k + 14) (sI (sI μ0 k 1 (0)) k 2 (0)) (zs (zs (zs (zs (zs (zs (zs (zs (zs z k 0) k 3) k 4) k 5) k 6) k 7) k 8) k 9) k 10) := hZ.zs (by omega)
  refine lv_aload_n hx hb dX2_init_89 rfl (lv_at hl 0 rfl) ?_
  refine lv_bipush (v := (6)) hx hb dX2_init_90 (by decide) ?_
  refine a_newarr C hP hS hsz (by omega) (Or.inl ⟨rfl, rfl⟩) (kd_X2_14 hk) (by decide) (by decide) (by decide) ac_int (hZ (k + 14) (Nat.le_refl _)).1 (hZ (k + 14) (Nat.le_refl _)).2.1 (by decide) (by decide) dX2_init_92 (fun H hP hS hsz _ => ?_)
  have hP : fP (wz w k (k + 15) (zs (zs (zs (zs (zs (zs (zs (zs (zs z k 0) k 3) k 4) k 5) k 6) k 7) k 8) k 9) k 10)) (sI (sI μ0 k 1 (0)) k 2 (0)) H := hP
  have hsz : H.size = w.2.2.1 (k + 15) := hsz
  have hZ : Z0 (k + 15) (sI (sI μ0 k 1 (0)) k 2 (0)) (zs (zs (zs (zs (zs (zs (zs (zs (zs z k 0) k 3) k 4) k 5) k 6) k 7) k 8) k 9) k 10) := hZ.mono (by omega)
  refine a_p3 C hP hS (hA (by omega)) (by omega) (v := k + 14) ⟨Nat.le_refl _, by omega⟩ hk ff_X2_48 rfl rfl (fun _ => ⟨rfl, rfl⟩) rfl dX2_init_94 (fun H locs hP hS hs9 => ?_)
  rw [hsz] at hs9
  have hsz := hs9
  have hZ : Z0 (k + 15) (sI (sI μ0 k 1 (0)) k 2 (0)) (zs (zs (zs (zs (zs (zs (zs (zs (zs (zs z k 0) k 3) k 4) k 5) k 6) k 7) k 8) k 9) k 10) k 11) := hZ.zs (by omega)
  refine lv_aload_n hx hb dX2_init_97 rfl (lv_at hl 0 rfl) ?_
  refine lv_bipush (v := (9)) hx hb dX2_init_98 (by decide) ?_
  refine a_newarr C hP hS hsz (by omega) (Or.inl ⟨rfl, rfl⟩) (kd_X2_15 hk) (by decide) (by decide) (by decide) ac_int (hZ (k + 15) (Nat.le_refl _)).1 (hZ (k + 15) (Nat.le_refl _)).2.1 (by decide) (by decide) dX2_init_100 (fun H hP hS hsz _ => ?_)
  have hP : fP (wz w k (k + 16) (zs (zs (zs (zs (zs (zs (zs (zs (zs (zs z k 0) k 3) k 4) k 5) k 6) k 7) k 8) k 9) k 10) k 11)) (sI (sI μ0 k 1 (0)) k 2 (0)) H := hP
  have hsz : H.size = w.2.2.1 (k + 16) := hsz
  have hZ : Z0 (k + 16) (sI (sI μ0 k 1 (0)) k 2 (0)) (zs (zs (zs (zs (zs (zs (zs (zs (zs (zs z k 0) k 3) k 4) k 5) k 6) k 7) k 8) k 9) k 10) k 11) := hZ.mono (by omega)
  refine a_p3 C hP hS (hA (by omega)) (by omega) (v := k + 15) ⟨Nat.le_refl _, by omega⟩ hk ff_X2_51 rfl rfl (fun _ => ⟨rfl, rfl⟩) rfl dX2_init_102 (fun H locs hP hS hs9 => ?_)
  rw [hsz] at hs9
  have hsz := hs9
  have hZ : Z0 (k + 16) (sI (sI μ0 k 1 (0)) k 2 (0)) (zs (zs (zs (zs (zs (zs (zs (zs (zs (zs (zs z k 0) k 3) k 4) k 5) k 6) k 7) k 8) k 9) k 10) k 11) k 12) := hZ.zs (by omega)
  refine lv_aload_n hx hb dX2_init_105 rfl (lv_at hl 0 rfl) ?_
  refine a_new C hP hS hsz (by omega) (kd_X2_16 hk) rfl nl_X2_54 (hZ (k + 16) (Nat.le_refl _)).1 (hZ (k + 16) (Nat.le_refl _)).2.1 (hZ (k + 16) (Nat.le_refl _)).2.2 (by decide) (by decide) dX2_init_106 (fun H hP hS hsz _ => ?_)
  have hP : fP (wz w k (k + 16 + 1) (zs (zs (zs (zs (zs (zs (zs (zs (zs (zs (zs z k 0) k 3) k 4) k 5) k 6) k 7) k 8) k 9) k 10) k 11) k 12)) (sI (sI μ0 k 1 (0)) k 2 (0)) H := hP
  have hsz : H.size = w.2.2.1 (k + 16 + 1) := hsz
  refine lv_dup hx hb dX2_init_109 rfl ?_
  refine a_init (rest := [.ref (w.2.2.1 (k + 16)), .ref (w.2.2.1 k)]) C hl hP (by omega) (by omega) hS (fun q h => hAD.up (by omega) (by omega) h) (fun q h => hAD.up0 (by omega) h) hsz il_X2_56 (k_X3 l w hAD (k + 16) (kd_X2_16 hk) (zs (zs (zs (zs (zs (zs (zs (zs (zs (zs (zs z k 0) k 3) k 4) k 5) k 6) k 7) k 8) k 9) k 10) k 11) k 12) (sI (sI μ0 k 1 (0)) k 2 (0)) hZ) ⟨rfl, rfl, by decide, by decide⟩ (Nat.le_of_ble_eq_true rfl) ⟨by decide, by decide⟩ dX2_init_110 (fun H locs hPn hPo hS hsz => ?_)
  have hP := fP_mg (by omega) hPo hPn
  have hP : fP (wz w k (k + 20) (zm (zs (zs (zs (zs (zs (zs (zs (zs (zs (zs (zs z k 0) k 3) k 4) k 5) k 6) k 7) k 8) k 9) k 10) k 11) k 12) (k + 16) (k + 20))) (mg (sI (sI μ0 k 1 (0)) k 2 (0)) ini (k + 16) (k + 20)) H := hP
  have hsz : H.size = w.2.2.1 (k + 20) := hsz
  have hZ : Z0 (k + 20) (mg (sI (sI μ0 k 1 (0)) k 2 (0)) ini (k + 16) (k + 20)) (zm (zs (zs (zs (zs (zs (zs (zs (zs (zs (zs (zs z k 0) k 3) k 4) k 5) k 6) k 7) k 8) k 9) k 10) k 11) k 12) (k + 16) (k + 20)) := (hZ.mono (by omega)).mg (Nat.le_refl _)
  refine a_p3 C hP hS (hA (by omega)) (by omega) (v := k + 16) ⟨Nat.le_refl _, by omega⟩ hk ff_X2_57 rfl rfl (fun _ => ⟨rfl, rfl⟩) rfl dX2_init_113 (fun H locs hP hS hs9 => ?_)
  rw [hsz] at hs9
  have hsz := hs9
  have hZ : Z0 (k + 20) (mg (sI (sI μ0 k 1 (0)) k 2 (0)) ini (k + 16) (k + 20)) (zs (zm (zs (zs (zs (zs (zs (zs (zs (zs (zs (zs (zs z k 0) k 3) k 4) k 5) k 6) k 7) k 8) k 9) k 10) k 11) k 12) (k + 16) (k + 20)) k 13) := hZ.zs (by omega)
  refine lv_aload_n hx hb dX2_init_116 rfl (lv_at hl 0 rfl) ?_
  refine a_new C hP hS hsz (by omega) (kd_X2_20 hk) rfl nl_X2_54 (hZ (k + 20) (Nat.le_refl _)).1 (hZ (k + 20) (Nat.le_refl _)).2.1 (hZ (k + 20) (Nat.le_refl _)).2.2 (by decide) (by decide) dX2_init_117 (fun H hP hS hsz _ => ?_)
  have hP : fP (wz w k (k + 20 + 1) (zs (zm (zs (zs (zs (zs (zs (zs (zs (zs (zs (zs (zs z k 0) k 3) k 4) k 5) k 6) k 7) k 8) k 9) k 10) k 11) k 12) (k + 16) (k + 20)) k 13)) (mg (sI (sI μ0 k 1 (0)) k 2 (0)) ini (k + 16) (k + 20)) H := hP
  have hsz : H.size = w.2.2.1 (k + 20 + 1) := hsz
  refine lv_dup hx hb dX2_init_120 rfl ?_
  refine a_init (rest := [.ref (w.2.2.1 (k + 20)), .ref (w.2.2.1 k)]) C hl hP (by omega) (by omega) hS (fun q h => hAD.up (by omega) (by omega) h) (fun q h => hAD.up0 (by omega) h) hsz il_X2_56 (k_X3 l w hAD (k + 20) (kd_X2_20 hk) (zs (zm (zs (zs (zs (zs (zs (zs (zs (zs (zs (zs (zs z k 0) k 3) k 4) k 5) k 6) k 7) k 8) k 9) k 10) k 11) k 12) (k + 16) (k + 20)) k 13) (mg (sI (sI μ0 k 1 (0)) k 2 (0)) ini (k + 16) (k + 20)) hZ) ⟨rfl, rfl, by decide, by decide⟩ (Nat.le_of_ble_eq_true rfl) ⟨by decide, by decide⟩ dX2_init_121 (fun H locs hPn hPo hS hsz => ?_)
  have hP := fP_mg (by omega) hPo hPn
  have hP : fP (wz w k (k + 24) (zm (zs (zm (zs (zs (zs (zs (zs (zs (zs (zs (zs (zs (zs z k 0) k 3) k 4) k 5) k 6) k 7) k 8) k 9) k 10) k 11) k 12) (k + 16) (k + 20)) k 13) (k + 20) (k + 24))) (mg (mg (sI (sI μ0 k 1 (0)) k 2 (0)) ini (k + 16) (k + 20)) ini (k + 20) (k + 24)) H := hP
  have hsz : H.size = w.2.2.1 (k + 24) := hsz
  have hZ : Z0 (k + 24) (mg (mg (sI (sI μ0 k 1 (0)) k 2 (0)) ini (k + 16) (k + 20)) ini (k + 20) (k + 24)) (zm (zs (zm (zs (zs (zs (zs (zs (zs (zs (zs (zs (zs (zs z k 0) k 3) k 4) k 5) k 6) k 7) k 8) k 9) k 10) k 11) k 12) (k + 16) (k + 20)) k 13) (k + 20) (k + 24)) := (hZ.mono (by omega)).mg (Nat.le_refl _)
  refine a_p3 C hP hS (hA (by omega)) (by omega) (v := k + 20) ⟨Nat.le_refl _, by omega⟩ hk ff_X2_61 rfl rfl (fun _ => ⟨rfl, rfl⟩) rfl dX2_init_124 (fun H locs hP hS hs9 => ?_)
  rw [hsz] at hs9
  have hsz := hs9
  have hZ : Z0 (k + 24) (mg (mg (sI (sI μ0 k 1 (0)) k 2 (0)) ini (k + 16) (k + 20)) ini (k + 20) (k + 24)) (zs (zm (zs (zm (zs (zs (zs (zs (zs (zs (zs (zs (zs (zs (zs z k 0) k 3) k 4) k 5) k 6) k 7) k 8) k 9) k 10) k 11) k 12) (k + 16) (k + 20)) k 13) (k + 20) (k + 24)) k 14) := hZ.zs (by omega)
  refine lv_aload_n hx hb dX2_init_127 rfl (lv_at hl 0 rfl) ?_
  refine a_new C hP hS hsz (by omega) (kd_X2_24 hk) rfl nl_X2_54 (hZ (k + 24) (Nat.le_refl _)).1 (hZ (k + 24) (Nat.le_refl _)).2.1 (hZ (k + 24) (Nat.le_refl _)).2.2 (by decide) (by decide) dX2_init_128 (fun H hP hS hsz _ => ?_)
  have hP : fP (wz w k (k + 24 + 1) (zs (zm (zs (zm (zs (zs (zs (zs (zs (zs (zs (zs (zs (zs (zs z k 0) k 3) k 4) k 5) k 6) k 7) k 8) k 9) k 10) k 11) k 12) (k + 16) (k + 20)) k 13) (k + 20) (k + 24)) k 14)) (mg (mg (sI (sI μ0 k 1 (0)) k 2 (0)) ini (k + 16) (k + 20)) ini (k + 20) (k + 24)) H := hP
  have hsz : H.size = w.2.2.1 (k + 24 + 1) := hsz
  refine lv_dup hx hb dX2_init_131 rfl ?_
  refine a_init (rest := [.ref (w.2.2.1 (k + 24)), .ref (w.2.2.1 k)]) C hl hP (by omega) (by omega) hS (fun q h => hAD.up (by omega) (by omega) h) (fun q h => hAD.up0 (by omega) h) hsz il_X2_56 (k_X3 l w hAD (k + 24) (kd_X2_24 hk) (zs (zm (zs (zm (zs (zs (zs (zs (zs (zs (zs (zs (zs (zs (zs z k 0) k 3) k 4) k 5) k 6) k 7) k 8) k 9) k 10) k 11) k 12) (k + 16) (k + 20)) k 13) (k + 20) (k + 24)) k 14) (mg (mg (sI (sI μ0 k 1 (0)) k 2 (0)) ini (k + 16) (k + 20)) ini (k + 20) (k + 24)) hZ) ⟨rfl, rfl, by decide, by decide⟩ (Nat.le_of_ble_eq_true rfl) ⟨by decide, by decide⟩ dX2_init_132 (fun H locs hPn hPo hS hsz => ?_)
  have hP := fP_mg (by omega) hPo hPn
  have hP : fP (wz w k (k + 28) (zm (zs (zm (zs (zm (zs (zs (zs (zs (zs (zs (zs (zs (zs (zs (zs z k 0) k 3) k 4) k 5) k 6) k 7) k 8) k 9) k 10) k 11) k 12) (k + 16) (k + 20)) k 13) (k + 20) (k + 24)) k 14) (k + 24) (k + 28))) (mg (mg (mg (sI (sI μ0 k 1 (0)) k 2 (0)) ini (k + 16) (k + 20)) ini (k + 20) (k + 24)) ini (k + 24) (k + 28)) H := hP
  have hsz : H.size = w.2.2.1 (k + 28) := hsz
  have hZ : Z0 (k + 28) (mg (mg (mg (sI (sI μ0 k 1 (0)) k 2 (0)) ini (k + 16) (k + 20)) ini (k + 20) (k + 24)) ini (k + 24) (k + 28)) (zm (zs (zm (zs (zm (zs (zs (zs (zs (zs (zs (zs (zs (zs (zs (zs z k 0) k 3) k 4) k 5) k 6) k 7) k 8) k 9) k 10) k 11) k 12) (k + 16) (k + 20)) k 13) (k + 20) (k + 24)) k 14) (k + 24) (k + 28)) := (hZ.mono (by omega)).mg (Nat.le_refl _)
  refine a_p3 C hP hS (hA (by omega)) (by omega) (v := k + 24) ⟨Nat.le_refl _, by omega⟩ hk ff_X2_64 rfl rfl (fun _ => ⟨rfl, rfl⟩) rfl dX2_init_135 (fun H locs hP hS hs9 => ?_)
  rw [hsz] at hs9
  have hsz := hs9
  have hZ : Z0 (k + 28) (mg (mg (mg (sI (sI μ0 k 1 (0)) k 2 (0)) ini (k + 16) (k + 20)) ini (k + 20) (k + 24)) ini (k + 24) (k + 28)) (zs (zm (zs (zm (zs (zm (zs (zs (zs (zs (zs (zs (zs (zs (zs (zs (zs z k 0) k 3) k 4) k 5) k 6) k 7) k 8) k 9) k 10) k 11) k 12) (k + 16) (k + 20)) k 13) (k + 20) (k + 24)) k 14) (k + 24) (k + 28)) k 15) := hZ.zs (by omega)
  have hP : fP (wz w k (k + 28) (zm z k (k + 28))) (mg μ0 ini k (k + 28)) H := fP_congr (by omega) hP (fin_X2 hk h0)
  exact a_ret C hr hP hS hsz dX2_init_138
theorem kd_X7_1 {k : Nat} (h : kd k = (4, 7)) : kd (k + 1) = (0, 8) := by rcases ko_7 h with rfl | rfl | rfl | rfl <;> decide +kernel
theorem kd_X7_2 {k : Nat} (h : kd k = (4, 7)) : kd (k + 2) = (0, 8) := by rcases ko_7 h with rfl | rfl | rfl | rfl <;> decide +kernel
theorem kd_X7_3 {k : Nat} (h : kd k = (4, 7)) : kd (k + 3) = (0, 8) := by rcases ko_7 h with rfl | rfl | rfl | rfl <;> decide +kernel
theorem kd_X7_4 {k : Nat} (h : kd k = (4, 7)) : kd (k + 4) = (0, 6) := by rcases ko_7 h with rfl | rfl | rfl | rfl <;> decide +kernel
theorem kd_X7_5 {k : Nat} (h : kd k = (4, 7)) : kd (k + 5) = (0, 6) := by rcases ko_7 h with rfl | rfl | rfl | rfl <;> decide +kernel
theorem kb_X7 {k : Nat} (h : kd k = (4, 7)) : k + 6 ≤ 221 := by rcases ko_7 h with rfl | rfl | rfl | rfl <;> decide
def ri_X7 : Room := { frames := 1, cells := 5, slots := 36, locals := 23 }
set_option maxHeartbeats 4000000 in
set_option maxRecDepth 100000 in
theorem fin_X7 {k : Nat} (hk : kd k = (4, 7)) {z : Nat → Nat → Bool} {μ0 : fMem} (h0 : Z0 k μ0 z) : ∀ a, k ≤ a → a < k + 6 → (sRow (sI (sI μ0 k 5 (0)) k 6 (0)) (k + 1) (fun j => if j < 8 then (-1) else (sI (sI μ0 k 5 (0)) k 6 (0)).1 (k + 1) j)).1 a = (mg μ0 ini k (k + 6)).1 a ∧ (sRow (sI (sI μ0 k 5 (0)) k 6 (0)) (k + 1) (fun j => if j < 8 then (-1) else (sI (sI μ0 k 5 (0)) k 6 (0)).1 (k + 1) j)).2.1 a = (mg μ0 ini k (k + 6)).2.1 a ∧ ∀ ci, kd a = (4, ci) → ∀ j, j < fN ci → 3 ≤ ft ci j → (zs (zs (zs (zs (zs z k 0) k 1) k 2) k 3) k 4) a j = zm z k (k + 6) a j ∧ (4 ≤ ft ci j → (sRow (sI (sI μ0 k 5 (0)) k 6 (0)) (k + 1) (fun j => if j < 8 then (-1) else (sI (sI μ0 k 5 (0)) k 6 (0)).1 (k + 1) j)).2.2 a j = (mg μ0 ini k (k + 6)).2.2 a j) := by
  intro a h1 h2
  have e1 : (mg μ0 ini k (k + 6)).1 a = iniI a := if_pos ⟨h1, h2⟩
  have e2 : (mg μ0 ini k (k + 6)).2.1 a = iniL a := if_pos ⟨h1, h2⟩
  have e3 : (mg μ0 ini k (k + 6)).2.2 a = iniR a := if_pos ⟨h1, h2⟩
  have e4 : ∀ j, zm z k (k + 6) a j = true := fun j => if_pos ⟨h1, h2⟩
  rw [e1, e2, e3]
  rcases (show a = k ∨ a = k + 1 ∨ a = k + 2 ∨ a = k + 3 ∨ a = k + 4 ∨ a = k + 5 by omega) with rfl | rfl | rfl | rfl | rfl | rfl
  · have z1 := (h0 a (Nat.le_refl _)).1
    have z2 := (h0 a (Nat.le_refl _)).2.1
    refine ⟨?_, ?_, fun ci hci j hj h3 => ?_⟩
    · funext j
      simp only [sI, sL, sR, sRow, sRowL, fu, mg, z1]
      rcases ko_7 hk with rfl | rfl | rfl | rfl <;> simp only [iniI] <;> (repeat (first | rfl | split | omega | simp_all))
    · funext j
      simp only [sI, sL, sR, sRow, sRowL, fu, mg, z2]
      rcases ko_7 hk with rfl | rfl | rfl | rfl <;> simp only [iniL] <;> (repeat (first | rfl | split | omega | simp_all))
    · rw [hk] at hci; cases hci
      rw [e4]
      rcases (show j = 0 ∨ j = 1 ∨ j = 2 ∨ j = 3 ∨ j = 4 ∨ j = 5 ∨ j = 6 by simp only [fN] at hj; omega) with rfl | rfl | rfl | rfl | rfl | rfl | rfl
      all_goals first | exact absurd h3 (by decide) | skip
      all_goals refine ⟨by simp [zs, zm], fun h4 => ?_⟩
      all_goals first | exact absurd h4 (by decide) | skip
      all_goals (simp only [sI, sL, sR, sRow, sRowL, fu, mg]; rcases ko_7 hk with rfl | rfl | rfl | rfl <;> simp [iniR])
  · have z1 := (h0 (k + 1) (by omega)).1
    have z2 := (h0 (k + 1) (by omega)).2.1
    refine ⟨?_, ?_, fun ci hci j hj h3 => ?_⟩
    · funext j
      simp only [sI, sL, sR, sRow, sRowL, fu, mg, z1]
      rcases ko_7 hk with rfl | rfl | rfl | rfl <;> simp [iniI]
    · funext j
      simp only [sI, sL, sR, sRow, sRowL, fu, mg, z2]
      rcases ko_7 hk with rfl | rfl | rfl | rfl <;> simp [iniL]
    · exact (kd_ne4 (kd_X7_1 hk) (by decide) hci).elim
  · have z1 := (h0 (k + 2) (by omega)).1
    have z2 := (h0 (k + 2) (by omega)).2.1
    refine ⟨?_, ?_, fun ci hci j hj h3 => ?_⟩
    · funext j
      simp only [sI, sL, sR, sRow, sRowL, fu, mg, z1]
      rcases ko_7 hk with rfl | rfl | rfl | rfl <;> simp [iniI]
    · funext j
      simp only [sI, sL, sR, sRow, sRowL, fu, mg, z2]
      rcases ko_7 hk with rfl | rfl | rfl | rfl <;> simp [iniL]
    · exact (kd_ne4 (kd_X7_2 hk) (by decide) hci).elim
  · have z1 := (h0 (k + 3) (by omega)).1
    have z2 := (h0 (k + 3) (by omega)).2.1
    refine ⟨?_, ?_, fun ci hci j hj h3 => ?_⟩
    · funext j
      simp only [sI, sL, sR, sRow, sRowL, fu, mg, z1]
      rcases ko_7 hk with rfl | rfl | rfl | rfl <;> simp [iniI]
    · funext j
      simp only [sI, sL, sR, sRow, sRowL, fu, mg, z2]
      rcases ko_7 hk with rfl | rfl | rfl | rfl <;> simp [iniL]
    · exact (kd_ne4 (kd_X7_3 hk) (by decide) hci).elim
  · have z1 := (h0 (k + 4) (by omega)).1
    have z2 := (h0 (k + 4) (by omega)).2.1
    refine ⟨?_, ?_, fun ci hci j hj h3 => ?_⟩
    · funext j
      simp only [sI, sL, sR, sRow, sRowL, fu, mg, z1]
      rcases ko_7 hk with rfl | rfl | rfl | rfl <;> simp [iniI]
    · funext j
      simp only [sI, sL, sR, sRow, sRowL, fu, mg, z2]
      rcases ko_7 hk with rfl | rfl | rfl | rfl <;> simp [iniL]
    · exact (kd_ne4 (kd_X7_4 hk) (by decide) hci).elim
  · have z1 := (h0 (k + 5) (by omega)).1
    have z2 := (h0 (k + 5) (by omega)).2.1
    refine ⟨?_, ?_, fun ci hci j hj h3 => ?_⟩
    · funext j
      simp only [sI, sL, sR, sRow, sRowL, fu, mg, z1]
      rcases ko_7 hk with rfl | rfl | rfl | rfl <;> simp [iniI]
    · funext j
      simp only [sI, sL, sR, sRow, sRowL, fu, mg, z2]
      rcases ko_7 hk with rfl | rfl | rfl | rfl <;> simp [iniL]
    · exact (kd_ne4 (kd_X7_5 hk) (by decide) hci).elim
set_option maxHeartbeats 4000000 in
set_option maxRecDepth 100000 in
theorem k_X7 (l : Launch) (w : fW) (hAD : fAD w) (k : Nat) (hk : kd k = (4, 7)) (z : Nat → Nat → Bool) (μ0 : fMem) (h0 : Z0 k μ0 z) : Met l yX7_init (.code yX7_init cX7_init 1 none :: gw) ri_X7 (cPc w k z μ0) (cQ w k (k + 6) (zm z k (k + 6)) (mg μ0 ini k (k + 6))) 5 36 (fun q => w.2.2.1 k ≤ q) := by
  have hkb := kb_X7 hk
  refine cmet_of hAD (by decide) rfl ?_ (by decide)
  intro p e s m below meth c ls C hr hP hs0 hl hS
  obtain ⟨hx, hb, hml, hown, hts, hK, -, hlk, hT, hNs, -⟩ := id C
  have hsz := hs0
  have hZ : Z0 (k + 1) μ0 z := h0.mono (Nat.le_succ k)
  have hA : ∀ {n : Nat}, n ≤ 221 → ∀ a, k ≤ a → a < n → (fun q => w.2.2.1 k ≤ q) (w.2.2.1 a) := fun hn a h1 h2 => hAD.up (n := a) h1 (by omega) (Nat.le_refl _)
  refine lv_aload_n hx hb dX7_init_0 rfl (lv_at hl 0 rfl) ?_
  refine W.objInit hx hb hown (hts _ ol_X7_3) (hts _ oi.1) (hts _ oi.2) rfl (by rw [hml]; exact hl.1) rfl dX7_init_1 (by decide) (Nat.le_of_ble_eq_true rfl) ?_
  refine W.eq (g2 := F0 m 4 ls []) rfl ?_
  refine lv_aload_n hx hb dX7_init_4 rfl (lv_at hl 0 rfl) ?_
  refine lv_bipush (v := (8)) hx hb dX7_init_5 (by decide) ?_
  refine a_newarr C hP hS hsz (by omega) (Or.inl ⟨rfl, rfl⟩) (kd_X7_1 hk) (by decide) (by decide) (by decide) ac_int (hZ (k + 1) (Nat.le_refl _)).1 (hZ (k + 1) (Nat.le_refl _)).2.1 (by decide) (by decide) dX7_init_7 (fun H hP hS hsz _ => ?_)
  have hP : fP (wz w k (k + 2) z) μ0 H := hP
  have hsz : H.size = w.2.2.1 (k + 2) := hsz
  have hZ : Z0 (k + 2) μ0 z := hZ.mono (by omega)
  refine a_p3 C hP hS (hA (by omega)) (by omega) (v := k + 1) ⟨Nat.le_refl _, by omega⟩ hk ff_X7_9 rfl rfl (fun _ => ⟨rfl, rfl⟩) rfl dX7_init_9 (fun H locs hP hS hs9 => ?_)
  rw [hsz] at hs9
  have hsz := hs9
  have hZ : Z0 (k + 2) μ0 (zs z k 0) := hZ.zs (by omega)
  refine lv_aload_n hx hb dX7_init_12 rfl (lv_at hl 0 rfl) ?_
  refine lv_bipush (v := (8)) hx hb dX7_init_13 (by decide) ?_
  refine a_newarr C hP hS hsz (by omega) (Or.inl ⟨rfl, rfl⟩) (kd_X7_2 hk) (by decide) (by decide) (by decide) ac_int (hZ (k + 2) (Nat.le_refl _)).1 (hZ (k + 2) (Nat.le_refl _)).2.1 (by decide) (by decide) dX7_init_15 (fun H hP hS hsz _ => ?_)
  have hP : fP (wz w k (k + 3) (zs z k 0)) μ0 H := hP
  have hsz : H.size = w.2.2.1 (k + 3) := hsz
  have hZ : Z0 (k + 3) μ0 (zs z k 0) := hZ.mono (by omega)
  refine a_p3 C hP hS (hA (by omega)) (by omega) (v := k + 2) ⟨Nat.le_refl _, by omega⟩ hk ff_X7_15 rfl rfl (fun _ => ⟨rfl, rfl⟩) rfl dX7_init_17 (fun H locs hP hS hs9 => ?_)
  rw [hsz] at hs9
  have hsz := hs9
  have hZ : Z0 (k + 3) μ0 (zs (zs z k 0) k 1) := hZ.zs (by omega)
  refine lv_aload_n hx hb dX7_init_20 rfl (lv_at hl 0 rfl) ?_
  refine lv_bipush (v := (8)) hx hb dX7_init_21 (by decide) ?_
  refine a_newarr C hP hS hsz (by omega) (Or.inl ⟨rfl, rfl⟩) (kd_X7_3 hk) (by decide) (by decide) (by decide) ac_int (hZ (k + 3) (Nat.le_refl _)).1 (hZ (k + 3) (Nat.le_refl _)).2.1 (by decide) (by decide) dX7_init_23 (fun H hP hS hsz _ => ?_)
  have hP : fP (wz w k (k + 4) (zs (zs z k 0) k 1)) μ0 H := hP
  have hsz : H.size = w.2.2.1 (k + 4) := hsz
  have hZ : Z0 (k + 4) μ0 (zs (zs z k 0) k 1) := hZ.mono (by omega)
  refine a_p3 C hP hS (hA (by omega)) (by omega) (v := k + 3) ⟨Nat.le_refl _, by omega⟩ hk ff_X7_18 rfl rfl (fun _ => ⟨rfl, rfl⟩) rfl dX7_init_25 (fun H locs hP hS hs9 => ?_)
  rw [hsz] at hs9
  have hsz := hs9
  have hZ : Z0 (k + 4) μ0 (zs (zs (zs z k 0) k 1) k 2) := hZ.zs (by omega)
  refine lv_aload_n hx hb dX7_init_28 rfl (lv_at hl 0 rfl) ?_
  refine lv_bipush (v := (6)) hx hb dX7_init_29 (by decide) ?_
  refine a_newarr C hP hS hsz (by omega) (Or.inl ⟨rfl, rfl⟩) (kd_X7_4 hk) (by decide) (by decide) (by decide) ac_int (hZ (k + 4) (Nat.le_refl _)).1 (hZ (k + 4) (Nat.le_refl _)).2.1 (by decide) (by decide) dX7_init_31 (fun H hP hS hsz _ => ?_)
  have hP : fP (wz w k (k + 5) (zs (zs (zs z k 0) k 1) k 2)) μ0 H := hP
  have hsz : H.size = w.2.2.1 (k + 5) := hsz
  have hZ : Z0 (k + 5) μ0 (zs (zs (zs z k 0) k 1) k 2) := hZ.mono (by omega)
  refine a_p3 C hP hS (hA (by omega)) (by omega) (v := k + 4) ⟨Nat.le_refl _, by omega⟩ hk ff_X7_21 rfl rfl (fun _ => ⟨rfl, rfl⟩) rfl dX7_init_33 (fun H locs hP hS hs9 => ?_)
  rw [hsz] at hs9
  have hsz := hs9
  have hZ : Z0 (k + 5) μ0 (zs (zs (zs (zs z k 0) k 1) k 2) k 3) := hZ.zs (by omega)
  refine lv_aload_n hx hb dX7_init_36 rfl (lv_at hl 0 rfl) ?_
  refine lv_bipush (v := (6)) hx hb dX7_init_37 (by decide) ?_
  refine a_newarr C hP hS hsz (by omega) (Or.inl ⟨rfl, rfl⟩) (kd_X7_5 hk) (by decide) (by decide) (by decide) ac_int (hZ (k + 5) (Nat.le_refl _)).1 (hZ (k + 5) (Nat.le_refl _)).2.1 (by decide) (by decide) dX7_init_39 (fun H hP hS hsz _ => ?_)
  have hP : fP (wz w k (k + 6) (zs (zs (zs (zs z k 0) k 1) k 2) k 3)) μ0 H := hP
  have hsz : H.size = w.2.2.1 (k + 6) := hsz
  have hZ : Z0 (k + 6) μ0 (zs (zs (zs (zs z k 0) k 1) k 2) k 3) := hZ.mono (by omega)
  refine a_p3 C hP hS (hA (by omega)) (by omega) (v := k + 5) ⟨Nat.le_refl _, by omega⟩ hk ff_X7_24 rfl rfl (fun _ => ⟨rfl, rfl⟩) rfl dX7_init_41 (fun H locs hP hS hs9 => ?_)
  rw [hsz] at hs9
  have hsz := hs9
  have hZ : Z0 (k + 6) μ0 (zs (zs (zs (zs (zs z k 0) k 1) k 2) k 3) k 4) := hZ.zs (by omega)
  refine lv_aload_n hx hb dX7_init_44 rfl (lv_at hl 0 rfl) ?_
  refine lv_iconst (v := (0)) hx hb dX7_init_45 (by decide) ?_
  refine a_p0 C hP hS (hA (by omega)) (by omega) ⟨Nat.le_refl _, by omega⟩ hk fp_X7_27 (Or.inl ⟨rfl, rfl⟩) dX7_init_46 (fun H locs hP hS hs9 => ?_)
  rw [hsz] at hs9
  have hsz := hs9
  have hZ : Z0 (k + 6) (sI μ0 k 5 (0)) (zs (zs (zs (zs (zs z k 0) k 1) k 2) k 3) k 4) := hZ.sI (by omega)
  refine lv_aload_n hx hb dX7_init_49 rfl (lv_at hl 0 rfl) ?_
  refine lv_iconst (v := (0)) hx hb dX7_init_50 (by decide) ?_
  refine a_p0 C hP hS (hA (by omega)) (by omega) ⟨Nat.le_refl _, by omega⟩ hk fp_X7_31 (Or.inl ⟨rfl, rfl⟩) dX7_init_51 (fun H locs hP hS hs9 => ?_)
  rw [hsz] at hs9
  have hsz := hs9
  have hZ : Z0 (k + 6) (sI (sI μ0 k 5 (0)) k 6 (0)) (zs (zs (zs (zs (zs z k 0) k 1) k 2) k 3) k 4) := hZ.sI (by omega)
  refine lv_aload_n hx hb dX7_init_54 rfl (lv_at hl 0 rfl) ?_
  refine r_getF (off := 1) (w := wz w k (k + 6) (zs (zs (zs (zs (zs z k 0) k 1) k 2) k 3) k 4)) (C.x (by omega)) hP ⟨Nat.le_refl _, by show k < k + 6; omega⟩ hk fl_X7_9 rfl rfl (by simp [wz, zs, zm]) dX7_init_55 ?_
  refine lv_iconst (v := (-1)) hx hb dX7_init_58 (by decide) ?_
  have hfill := fill_spec (k + 1) (-1) (sI (sI μ0 k 5 (0)) k 6 (0)) (kd_X7_1 hk) (by decide)
  refine a_call (callS_run (w := (wz w k (k + 6) (zs (zs (zs (zs (zs z k 0) k 1) k 2) k 3) k 4))) (As := [.ref (w.2.2.1 (k + 1)), .int (-1)]) (rest := []) (C.x (by omega)) hl hP (fun a h1 h2 => hS.2.1 a h1 (fun q => h2 (hAD.up0 (by omega) q))) (m_J7_fill_53178 l (wz w k (k + 6) (zs (zs (zs (zs (zs z k 0) k 1) k 2) k 3) k 4)) (hAD.J (by omega)) (k + 1) (-1) (karr (kd_X7_1 hk)) ⟨by show k ≤ k + 1; omega, by show k + 1 < k + 6; omega⟩ (sI (sI μ0 k 5 (0)) k 6 (0)) hfill) ms_X7_34 ⟨rfl, rfl, by decide, by decide⟩ rfl rfl (Nat.le_of_ble_eq_true rfl) ⟨by decide, by decide⟩ dX7_init_59) hS (hA (by omega)) (by rw [hsz, hs0, hAD _ (by omega), hAD (k + 1) (by omega)]; omega) (fun H locs hP hS hs9 => ?_)
  rw [hsz] at hs9
  have hsz := hs9
  have hP : fP (wz w k (k + 6) (zm z k (k + 6))) (mg μ0 ini k (k + 6)) H := fP_congr (by omega) hP (fin_X7 hk h0)
  exact a_ret C hr hP hS hsz dX7_init_62
theorem kd_X4_1 {k : Nat} (h : kd k = (4, 4)) : kd (k + 1) = (0, 24) := by have e := ko_4 h; subst e <;> decide +kernel
theorem kd_X4_2 {k : Nat} (h : kd k = (4, 4)) : kd (k + 2) = (0, 24) := by have e := ko_4 h; subst e <;> decide +kernel
theorem kd_X4_3 {k : Nat} (h : kd k = (4, 4)) : kd (k + 3) = (0, 24) := by have e := ko_4 h; subst e <;> decide +kernel
theorem kd_X4_4 {k : Nat} (h : kd k = (4, 4)) : kd (k + 4) = (1, 24) := by have e := ko_4 h; subst e <;> decide +kernel
theorem kd_X4_5 {k : Nat} (h : kd k = (4, 4)) : kd (k + 5) = (0, 24) := by have e := ko_4 h; subst e <;> decide +kernel
theorem kd_X4_6 {k : Nat} (h : kd k = (4, 4)) : kd (k + 6) = (1, 24) := by have e := ko_4 h; subst e <;> decide +kernel
theorem kb_X4 {k : Nat} (h : kd k = (4, 4)) : k + 7 ≤ 221 := by have e := ko_4 h; subst e <;> decide
def ri_X4 : Room := { frames := 1, cells := 6, slots := 144, locals := 20 }
set_option maxHeartbeats 4000000 in
set_option maxRecDepth 100000 in
theorem fin_X4 {k : Nat} (hk : kd k = (4, 4)) {z : Nat → Nat → Bool} {μ0 : fMem} (h0 : Z0 k μ0 z) : ∀ a, k ≤ a → a < k + 7 → (sI (sI μ0 k 0 (0)) k 1 (-1)).1 a = (mg μ0 ini k (k + 7)).1 a ∧ (sI (sI μ0 k 0 (0)) k 1 (-1)).2.1 a = (mg μ0 ini k (k + 7)).2.1 a ∧ ∀ ci, kd a = (4, ci) → ∀ j, j < fN ci → 3 ≤ ft ci j → (zs (zs (zs (zs (zs (zs z k 2) k 3) k 4) k 5) k 6) k 7) a j = zm z k (k + 7) a j ∧ (4 ≤ ft ci j → (sI (sI μ0 k 0 (0)) k 1 (-1)).2.2 a j = (mg μ0 ini k (k + 7)).2.2 a j) := by
  intro a h1 h2
  have e1 : (mg μ0 ini k (k + 7)).1 a = iniI a := if_pos ⟨h1, h2⟩
  have e2 : (mg μ0 ini k (k + 7)).2.1 a = iniL a := if_pos ⟨h1, h2⟩
  have e3 : (mg μ0 ini k (k + 7)).2.2 a = iniR a := if_pos ⟨h1, h2⟩
  have e4 : ∀ j, zm z k (k + 7) a j = true := fun j => if_pos ⟨h1, h2⟩
  rw [e1, e2, e3]
  rcases (show a = k ∨ a = k + 1 ∨ a = k + 2 ∨ a = k + 3 ∨ a = k + 4 ∨ a = k + 5 ∨ a = k + 6 by omega) with rfl | rfl | rfl | rfl | rfl | rfl | rfl
  · have z1 := (h0 a (Nat.le_refl _)).1
    have z2 := (h0 a (Nat.le_refl _)).2.1
    refine ⟨?_, ?_, fun ci hci j hj h3 => ?_⟩
    · funext j
      simp only [sI, sL, sR, sRow, sRowL, fu, mg, z1]
      have e := ko_4 hk; subst e <;> simp only [iniI] <;> (repeat (first | rfl | split | omega | simp_all))
    · funext j
      simp only [sI, sL, sR, sRow, sRowL, fu, mg, z2]
      have e := ko_4 hk; subst e <;> simp only [iniL] <;> (repeat (first | rfl | split | omega | simp_all))
    · rw [hk] at hci; cases hci
      rw [e4]
      rcases (show j = 0 ∨ j = 1 ∨ j = 2 ∨ j = 3 ∨ j = 4 ∨ j = 5 ∨ j = 6 ∨ j = 7 by simp only [fN] at hj; omega) with rfl | rfl | rfl | rfl | rfl | rfl | rfl | rfl
      all_goals first | exact absurd h3 (by decide) | skip
      all_goals refine ⟨by simp [zs, zm], fun h4 => ?_⟩
      all_goals first | exact absurd h4 (by decide) | skip
      all_goals (simp only [sI, sL, sR, sRow, sRowL, fu, mg]; have e := ko_4 hk; subst e <;> simp [iniR])
  · have z1 := (h0 (k + 1) (by omega)).1
    have z2 := (h0 (k + 1) (by omega)).2.1
    refine ⟨?_, ?_, fun ci hci j hj h3 => ?_⟩
    · funext j
      simp only [sI, sL, sR, sRow, sRowL, fu, mg, z1]
      have e := ko_4 hk; subst e <;> simp [iniI]
    · funext j
      simp only [sI, sL, sR, sRow, sRowL, fu, mg, z2]
      have e := ko_4 hk; subst e <;> simp [iniL]
    · exact (kd_ne4 (kd_X4_1 hk) (by decide) hci).elim
  · have z1 := (h0 (k + 2) (by omega)).1
    have z2 := (h0 (k + 2) (by omega)).2.1
    refine ⟨?_, ?_, fun ci hci j hj h3 => ?_⟩
    · funext j
      simp only [sI, sL, sR, sRow, sRowL, fu, mg, z1]
      have e := ko_4 hk; subst e <;> simp [iniI]
    · funext j
      simp only [sI, sL, sR, sRow, sRowL, fu, mg, z2]
      have e := ko_4 hk; subst e <;> simp [iniL]
    · exact (kd_ne4 (kd_X4_2 hk) (by decide) hci).elim
  · have z1 := (h0 (k + 3) (by omega)).1
    have z2 := (h0 (k + 3) (by omega)).2.1
    refine ⟨?_, ?_, fun ci hci j hj h3 => ?_⟩
    · funext j
      simp only [sI, sL, sR, sRow, sRowL, fu, mg, z1]
      have e := ko_4 hk; subst e <;> simp [iniI]
    · funext j
      simp only [sI, sL, sR, sRow, sRowL, fu, mg, z2]
      have e := ko_4 hk; subst e <;> simp [iniL]
    · exact (kd_ne4 (kd_X4_3 hk) (by decide) hci).elim
  · have z1 := (h0 (k + 4) (by omega)).1
    have z2 := (h0 (k + 4) (by omega)).2.1
    refine ⟨?_, ?_, fun ci hci j hj h3 => ?_⟩
    · funext j
      simp only [sI, sL, sR, sRow, sRowL, fu, mg, z1]
      have e := ko_4 hk; subst e <;> simp [iniI]
    · funext j
      simp only [sI, sL, sR, sRow, sRowL, fu, mg, z2]
      have e := ko_4 hk; subst e <;> simp [iniL]
    · exact (kd_ne4 (kd_X4_4 hk) (by decide) hci).elim
  · have z1 := (h0 (k + 5) (by omega)).1
    have z2 := (h0 (k + 5) (by omega)).2.1
    refine ⟨?_, ?_, fun ci hci j hj h3 => ?_⟩
    · funext j
      simp only [sI, sL, sR, sRow, sRowL, fu, mg, z1]
      have e := ko_4 hk; subst e <;> simp [iniI]
    · funext j
      simp only [sI, sL, sR, sRow, sRowL, fu, mg, z2]
      have e := ko_4 hk; subst e <;> simp [iniL]
    · exact (kd_ne4 (kd_X4_5 hk) (by decide) hci).elim
  · have z1 := (h0 (k + 6) (by omega)).1
    have z2 := (h0 (k + 6) (by omega)).2.1
    refine ⟨?_, ?_, fun ci hci j hj h3 => ?_⟩
    · funext j
      simp only [sI, sL, sR, sRow, sRowL, fu, mg, z1]
      have e := ko_4 hk; subst e <;> simp [iniI]
    · funext j
      simp only [sI, sL, sR, sRow, sRowL, fu, mg, z2]
      have e := ko_4 hk; subst e <;> simp [iniL]
    · exact (kd_ne4 (kd_X4_6 hk) (by decide) hci).elim
set_option maxHeartbeats 4000000 in
set_option maxRecDepth 100000 in
theorem k_X4 (l : Launch) (w : fW) (hAD : fAD w) (k : Nat) (hk : kd k = (4, 4)) (z : Nat → Nat → Bool) (μ0 : fMem) (h0 : Z0 k μ0 z) : Met l yX4_init (.code yX4_init cX4_init 1 none :: gw) ri_X4 (cPc w k z μ0) (cQ w k (k + 7) (zm z k (k + 7)) (mg μ0 ini k (k + 7))) 6 144 (fun q => w.2.2.1 k ≤ q) := by
  have hkb := kb_X4 hk
  refine cmet_of hAD (by decide) rfl ?_ (by decide)
  intro p e s m below meth c ls C hr hP hs0 hl hS
  obtain ⟨hx, hb, hml, hown, hts, hK, -, hlk, hT, hNs, -⟩ := id C
  have hsz := hs0
  have hZ : Z0 (k + 1) μ0 z := h0.mono (Nat.le_succ k)
  have hA : ∀ {n : Nat}, n ≤ 221 → ∀ a, k ≤ a → a < n → (fun q => w.2.2.1 k ≤ q) (w.2.2.1 a) := fun hn a h1 h2 => hAD.up (n := a) h1 (by omega) (Nat.le_refl _)
  refine lv_aload_n hx hb dX4_init_0 rfl (lv_at hl 0 rfl) ?_
  refine W.objInit hx hb hown (hts _ ol_X4_3) (hts _ oi.1) (hts _ oi.2) rfl (by rw [hml]; exact hl.1) rfl dX4_init_1 (by decide) (Nat.le_of_ble_eq_true rfl) ?_
  refine W.eq (g2 := F0 m 4 ls []) rfl ?_
  refine lv_aload_n hx hb dX4_init_4 rfl (lv_at hl 0 rfl) ?_
  refine lv_iconst (v := (0)) hx hb dX4_init_5 (by decide) ?_
  refine a_p0 C hP hS (hA (by omega)) (by omega) ⟨Nat.le_refl _, by omega⟩ hk fp_X4_9 (Or.inl ⟨rfl, rfl⟩) dX4_init_6 (fun H locs hP hS hs9 => ?_)
  rw [hsz] at hs9
  have hsz := hs9
  have hZ : Z0 (k + 1) (sI μ0 k 0 (0)) z := hZ.sI (by omega)
  refine lv_aload_n hx hb dX4_init_9 rfl (lv_at hl 0 rfl) ?_
  refine lv_iconst (v := (-1)) hx hb dX4_init_10 (by decide) ?_
  refine a_p0 C hP hS (hA (by omega)) (by omega) ⟨Nat.le_refl _, by omega⟩ hk fp_X4_15 (Or.inl ⟨rfl, rfl⟩) dX4_init_11 (fun H locs hP hS hs9 => ?_)
  rw [hsz] at hs9
  have hsz := hs9
  have hZ : Z0 (k + 1) (sI (sI μ0 k 0 (0)) k 1 (-1)) z := hZ.sI (by omega)
  refine lv_aload_n hx hb dX4_init_14 rfl (lv_at hl 0 rfl) ?_
  refine lv_bipush (v := (24)) hx hb dX4_init_15 (by decide) ?_
  refine a_newarr C hP hS hsz (by omega) (Or.inl ⟨rfl, rfl⟩) (kd_X4_1 hk) (by decide) (by decide) (by decide) ac_int (hZ (k + 1) (Nat.le_refl _)).1 (hZ (k + 1) (Nat.le_refl _)).2.1 (by decide) (by decide) dX4_init_17 (fun H hP hS hsz _ => ?_)
  have hP : fP (wz w k (k + 2) z) (sI (sI μ0 k 0 (0)) k 1 (-1)) H := hP
  have hsz : H.size = w.2.2.1 (k + 2) := hsz
  have hZ : Z0 (k + 2) (sI (sI μ0 k 0 (0)) k 1 (-1)) z := hZ.mono (by omega)
  refine a_p3 C hP hS (hA (by omega)) (by omega) (v := k + 1) ⟨Nat.le_refl _, by omega⟩ hk ff_X4_18 rfl rfl (fun _ => ⟨rfl, rfl⟩) rfl dX4_init_19 (fun H locs hP hS hs9 => ?_)
  rw [hsz] at hs9
  have hsz := hs9
  have hZ : Z0 (k + 2) (sI (sI μ0 k 0 (0)) k 1 (-1)) (zs z k 2) := hZ.zs (by omega)
  refine lv_aload_n hx hb dX4_init_22 rfl (lv_at hl 0 rfl) ?_
  refine lv_bipush (v := (24)) hx hb dX4_init_23 (by decide) ?_
  refine a_newarr C hP hS hsz (by omega) (Or.inl ⟨rfl, rfl⟩) (kd_X4_2 hk) (by decide) (by decide) (by decide) ac_int (hZ (k + 2) (Nat.le_refl _)).1 (hZ (k + 2) (Nat.le_refl _)).2.1 (by decide) (by decide) dX4_init_25 (fun H hP hS hsz _ => ?_)
  have hP : fP (wz w k (k + 3) (zs z k 2)) (sI (sI μ0 k 0 (0)) k 1 (-1)) H := hP
  have hsz : H.size = w.2.2.1 (k + 3) := hsz
  have hZ : Z0 (k + 3) (sI (sI μ0 k 0 (0)) k 1 (-1)) (zs z k 2) := hZ.mono (by omega)
  refine a_p3 C hP hS (hA (by omega)) (by omega) (v := k + 2) ⟨Nat.le_refl _, by omega⟩ hk ff_X4_22 rfl rfl (fun _ => ⟨rfl, rfl⟩) rfl dX4_init_27 (fun H locs hP hS hs9 => ?_)
  rw [hsz] at hs9
  have hsz := hs9
  have hZ : Z0 (k + 3) (sI (sI μ0 k 0 (0)) k 1 (-1)) (zs (zs z k 2) k 3) := hZ.zs (by omega)
  refine lv_aload_n hx hb dX4_init_30 rfl (lv_at hl 0 rfl) ?_
  refine lv_bipush (v := (24)) hx hb dX4_init_31 (by decide) ?_
  refine a_newarr C hP hS hsz (by omega) (Or.inl ⟨rfl, rfl⟩) (kd_X4_3 hk) (by decide) (by decide) (by decide) ac_int (hZ (k + 3) (Nat.le_refl _)).1 (hZ (k + 3) (Nat.le_refl _)).2.1 (by decide) (by decide) dX4_init_33 (fun H hP hS hsz _ => ?_)
  have hP : fP (wz w k (k + 4) (zs (zs z k 2) k 3)) (sI (sI μ0 k 0 (0)) k 1 (-1)) H := hP
  have hsz : H.size = w.2.2.1 (k + 4) := hsz
  have hZ : Z0 (k + 4) (sI (sI μ0 k 0 (0)) k 1 (-1)) (zs (zs z k 2) k 3) := hZ.mono (by omega)
  refine a_p3 C hP hS (hA (by omega)) (by omega) (v := k + 3) ⟨Nat.le_refl _, by omega⟩ hk ff_X4_25 rfl rfl (fun _ => ⟨rfl, rfl⟩) rfl dX4_init_35 (fun H locs hP hS hs9 => ?_)
  rw [hsz] at hs9
  have hsz := hs9
  have hZ : Z0 (k + 4) (sI (sI μ0 k 0 (0)) k 1 (-1)) (zs (zs (zs z k 2) k 3) k 4) := hZ.zs (by omega)
  refine lv_aload_n hx hb dX4_init_38 rfl (lv_at hl 0 rfl) ?_
  refine lv_bipush (v := (24)) hx hb dX4_init_39 (by decide) ?_
  refine a_newarr C hP hS hsz (by omega) (Or.inr (Or.inl ⟨rfl, rfl⟩)) (kd_X4_4 hk) (by decide) (by decide) (by decide) ac_boolean (hZ (k + 4) (Nat.le_refl _)).1 (hZ (k + 4) (Nat.le_refl _)).2.1 (by decide) (by decide) dX4_init_41 (fun H hP hS hsz _ => ?_)
  have hP : fP (wz w k (k + 5) (zs (zs (zs z k 2) k 3) k 4)) (sI (sI μ0 k 0 (0)) k 1 (-1)) H := hP
  have hsz : H.size = w.2.2.1 (k + 5) := hsz
  have hZ : Z0 (k + 5) (sI (sI μ0 k 0 (0)) k 1 (-1)) (zs (zs (zs z k 2) k 3) k 4) := hZ.mono (by omega)
  refine a_p3 C hP hS (hA (by omega)) (by omega) (v := k + 4) ⟨Nat.le_refl _, by omega⟩ hk ff_X4_28 rfl rfl (fun _ => ⟨rfl, rfl⟩) rfl dX4_init_43 (fun H locs hP hS hs9 => ?_)
  rw [hsz] at hs9
  have hsz := hs9
  have hZ : Z0 (k + 5) (sI (sI μ0 k 0 (0)) k 1 (-1)) (zs (zs (zs (zs z k 2) k 3) k 4) k 5) := hZ.zs (by omega)
  refine lv_aload_n hx hb dX4_init_46 rfl (lv_at hl 0 rfl) ?_
  refine lv_bipush (v := (24)) hx hb dX4_init_47 (by decide) ?_
  refine a_newarr C hP hS hsz (by omega) (Or.inl ⟨rfl, rfl⟩) (kd_X4_5 hk) (by decide) (by decide) (by decide) ac_int (hZ (k + 5) (Nat.le_refl _)).1 (hZ (k + 5) (Nat.le_refl _)).2.1 (by decide) (by decide) dX4_init_49 (fun H hP hS hsz _ => ?_)
  have hP : fP (wz w k (k + 6) (zs (zs (zs (zs z k 2) k 3) k 4) k 5)) (sI (sI μ0 k 0 (0)) k 1 (-1)) H := hP
  have hsz : H.size = w.2.2.1 (k + 6) := hsz
  have hZ : Z0 (k + 6) (sI (sI μ0 k 0 (0)) k 1 (-1)) (zs (zs (zs (zs z k 2) k 3) k 4) k 5) := hZ.mono (by omega)
  refine a_p3 C hP hS (hA (by omega)) (by omega) (v := k + 5) ⟨Nat.le_refl _, by omega⟩ hk ff_X4_32 rfl rfl (fun _ => ⟨rfl, rfl⟩) rfl dX4_init_51 (fun H locs hP hS hs9 => ?_)
  rw [hsz] at hs9
  have hsz := hs9
  have hZ : Z0 (k + 6) (sI (sI μ0 k 0 (0)) k 1 (-1)) (zs (zs (zs (zs (zs z k 2) k 3) k 4) k 5) k 6) := hZ.zs (by omega)
  refine lv_aload_n hx hb dX4_init_54 rfl (lv_at hl 0 rfl) ?_
  refine lv_bipush (v := (24)) hx hb dX4_init_55 (by decide) ?_
  refine a_newarr C hP hS hsz (by omega) (Or.inr (Or.inl ⟨rfl, rfl⟩)) (kd_X4_6 hk) (by decide) (by decide) (by decide) ac_boolean (hZ (k + 6) (Nat.le_refl _)).1 (hZ (k + 6) (Nat.le_refl _)).2.1 (by decide) (by decide) dX4_init_57 (fun H hP hS hsz _ => ?_)
  have hP : fP (wz w k (k + 7) (zs (zs (zs (zs (zs z k 2) k 3) k 4) k 5) k 6)) (sI (sI μ0 k 0 (0)) k 1 (-1)) H := hP
  have hsz : H.size = w.2.2.1 (k + 7) := hsz
  have hZ : Z0 (k + 7) (sI (sI μ0 k 0 (0)) k 1 (-1)) (zs (zs (zs (zs (zs z k 2) k 3) k 4) k 5) k 6) := hZ.mono (by omega)
  refine a_p3 C hP hS (hA (by omega)) (by omega) (v := k + 6) ⟨Nat.le_refl _, by omega⟩ hk ff_X4_35 rfl rfl (fun _ => ⟨rfl, rfl⟩) rfl dX4_init_59 (fun H locs hP hS hs9 => ?_)
  rw [hsz] at hs9
  have hsz := hs9
  have hZ : Z0 (k + 7) (sI (sI μ0 k 0 (0)) k 1 (-1)) (zs (zs (zs (zs (zs (zs z k 2) k 3) k 4) k 5) k 6) k 7) := hZ.zs (by omega)
  have hP : fP (wz w k (k + 7) (zm z k (k + 7))) (mg μ0 ini k (k + 7)) H := fP_congr (by omega) hP (fin_X4 hk h0)
  exact a_ret C hr hP hS hsz dX4_init_62
theorem kd_X8_1 {k : Nat} (h : kd k = (4, 8)) : kd (k + 1) = (0, 20) := by have e := ko_8 h; subst e <;> decide +kernel
theorem kd_X8_2 {k : Nat} (h : kd k = (4, 8)) : kd (k + 2) = (0, 20) := by have e := ko_8 h; subst e <;> decide +kernel
theorem kd_X8_3 {k : Nat} (h : kd k = (4, 8)) : kd (k + 3) = (0, 20) := by have e := ko_8 h; subst e <;> decide +kernel
theorem kb_X8 {k : Nat} (h : kd k = (4, 8)) : k + 4 ≤ 221 := by have e := ko_8 h; subst e <;> decide
def ri_X8 : Room := { frames := 1, cells := 3, slots := 60, locals := 20 }
set_option maxHeartbeats 4000000 in
set_option maxRecDepth 100000 in
theorem fin_X8 {k : Nat} (hk : kd k = (4, 8)) {z : Nat → Nat → Bool} {μ0 : fMem} (h0 : Z0 k μ0 z) : ∀ a, k ≤ a → a < k + 4 → (sI μ0 k 0 (0)).1 a = (mg μ0 ini k (k + 4)).1 a ∧ (sI μ0 k 0 (0)).2.1 a = (mg μ0 ini k (k + 4)).2.1 a ∧ ∀ ci, kd a = (4, ci) → ∀ j, j < fN ci → 3 ≤ ft ci j → (zs (zs (zs z k 1) k 2) k 3) a j = zm z k (k + 4) a j ∧ (4 ≤ ft ci j → (sI μ0 k 0 (0)).2.2 a j = (mg μ0 ini k (k + 4)).2.2 a j) := by
  intro a h1 h2
  have e1 : (mg μ0 ini k (k + 4)).1 a = iniI a := if_pos ⟨h1, h2⟩
  have e2 : (mg μ0 ini k (k + 4)).2.1 a = iniL a := if_pos ⟨h1, h2⟩
  have e3 : (mg μ0 ini k (k + 4)).2.2 a = iniR a := if_pos ⟨h1, h2⟩
  have e4 : ∀ j, zm z k (k + 4) a j = true := fun j => if_pos ⟨h1, h2⟩
  rw [e1, e2, e3]
  rcases (show a = k ∨ a = k + 1 ∨ a = k + 2 ∨ a = k + 3 by omega) with rfl | rfl | rfl | rfl
  · have z1 := (h0 a (Nat.le_refl _)).1
    have z2 := (h0 a (Nat.le_refl _)).2.1
    refine ⟨?_, ?_, fun ci hci j hj h3 => ?_⟩
    · funext j
      simp only [sI, sL, sR, sRow, sRowL, fu, mg, z1]
      have e := ko_8 hk; subst e <;> simp only [iniI] <;> (repeat (first | rfl | split | omega | simp_all))
    · funext j
      simp only [sI, sL, sR, sRow, sRowL, fu, mg, z2]
      have e := ko_8 hk; subst e <;> simp only [iniL] <;> (repeat (first | rfl | split | omega | simp_all))
    · rw [hk] at hci; cases hci
      rw [e4]
      rcases (show j = 0 ∨ j = 1 ∨ j = 2 ∨ j = 3 by simp only [fN] at hj; omega) with rfl | rfl | rfl | rfl
      all_goals first | exact absurd h3 (by decide) | skip
      all_goals refine ⟨by simp [zs, zm], fun h4 => ?_⟩
      all_goals first | exact absurd h4 (by decide) | skip
      all_goals (simp only [sI, sL, sR, sRow, sRowL, fu, mg]; have e := ko_8 hk; subst e <;> simp [iniR])
  · have z1 := (h0 (k + 1) (by omega)).1
    have z2 := (h0 (k + 1) (by omega)).2.1
    refine ⟨?_, ?_, fun ci hci j hj h3 => ?_⟩
    · funext j
      simp only [sI, sL, sR, sRow, sRowL, fu, mg, z1]
      have e := ko_8 hk; subst e <;> simp [iniI]
    · funext j
      simp only [sI, sL, sR, sRow, sRowL, fu, mg, z2]
      have e := ko_8 hk; subst e <;> simp [iniL]
    · exact (kd_ne4 (kd_X8_1 hk) (by decide) hci).elim
  · have z1 := (h0 (k + 2) (by omega)).1
    have z2 := (h0 (k + 2) (by omega)).2.1
    refine ⟨?_, ?_, fun ci hci j hj h3 => ?_⟩
    · funext j
      simp only [sI, sL, sR, sRow, sRowL, fu, mg, z1]
      have e := ko_8 hk; subst e <;> simp [iniI]
    · funext j
      simp only [sI, sL, sR, sRow, sRowL, fu, mg, z2]
      have e := ko_8 hk; subst e <;> simp [iniL]
    · exact (kd_ne4 (kd_X8_2 hk) (by decide) hci).elim
  · have z1 := (h0 (k + 3) (by omega)).1
    have z2 := (h0 (k + 3) (by omega)).2.1
    refine ⟨?_, ?_, fun ci hci j hj h3 => ?_⟩
    · funext j
      simp only [sI, sL, sR, sRow, sRowL, fu, mg, z1]
      have e := ko_8 hk; subst e <;> simp [iniI]
    · funext j
      simp only [sI, sL, sR, sRow, sRowL, fu, mg, z2]
      have e := ko_8 hk; subst e <;> simp [iniL]
    · exact (kd_ne4 (kd_X8_3 hk) (by decide) hci).elim
set_option maxHeartbeats 4000000 in
set_option maxRecDepth 100000 in
theorem k_X8 (l : Launch) (w : fW) (hAD : fAD w) (k : Nat) (hk : kd k = (4, 8)) (z : Nat → Nat → Bool) (μ0 : fMem) (h0 : Z0 k μ0 z) : Met l yX8_init (.code yX8_init cX8_init 1 none :: gw) ri_X8 (cPc w k z μ0) (cQ w k (k + 4) (zm z k (k + 4)) (mg μ0 ini k (k + 4))) 3 60 (fun q => w.2.2.1 k ≤ q) := by
  have hkb := kb_X8 hk
  refine cmet_of hAD (by decide) rfl ?_ (by decide)
  intro p e s m below meth c ls C hr hP hs0 hl hS
  obtain ⟨hx, hb, hml, hown, hts, hK, -, hlk, hT, hNs, -⟩ := id C
  have hsz := hs0
  have hZ : Z0 (k + 1) μ0 z := h0.mono (Nat.le_succ k)
  have hA : ∀ {n : Nat}, n ≤ 221 → ∀ a, k ≤ a → a < n → (fun q => w.2.2.1 k ≤ q) (w.2.2.1 a) := fun hn a h1 h2 => hAD.up (n := a) h1 (by omega) (Nat.le_refl _)
  refine lv_aload_n hx hb dX8_init_0 rfl (lv_at hl 0 rfl) ?_
  refine W.objInit hx hb hown (hts _ ol_X8_3) (hts _ oi.1) (hts _ oi.2) rfl (by rw [hml]; exact hl.1) rfl dX8_init_1 (by decide) (Nat.le_of_ble_eq_true rfl) ?_
  refine W.eq (g2 := F0 m 4 ls []) rfl ?_
  refine lv_aload_n hx hb dX8_init_4 rfl (lv_at hl 0 rfl) ?_
  refine lv_iconst (v := (0)) hx hb dX8_init_5 (by decide) ?_
  refine a_p0 C hP hS (hA (by omega)) (by omega) ⟨Nat.le_refl _, by omega⟩ hk fp_X8_9 (Or.inl ⟨rfl, rfl⟩) dX8_init_6 (fun H locs hP hS hs9 => ?_)
  rw [hsz] at hs9
  have hsz := hs9
  have hZ : Z0 (k + 1) (sI μ0 k 0 (0)) z := hZ.sI (by omega)
  refine lv_aload_n hx hb dX8_init_9 rfl (lv_at hl 0 rfl) ?_
  refine lv_bipush (v := (20)) hx hb dX8_init_10 (by decide) ?_
  refine a_newarr C hP hS hsz (by omega) (Or.inl ⟨rfl, rfl⟩) (kd_X8_1 hk) (by decide) (by decide) (by decide) ac_int (hZ (k + 1) (Nat.le_refl _)).1 (hZ (k + 1) (Nat.le_refl _)).2.1 (by decide) (by decide) dX8_init_12 (fun H hP hS hsz _ => ?_)
  have hP : fP (wz w k (k + 2) z) (sI μ0 k 0 (0)) H := hP
  have hsz : H.size = w.2.2.1 (k + 2) := hsz
  have hZ : Z0 (k + 2) (sI μ0 k 0 (0)) z := hZ.mono (by omega)
  refine a_p3 C hP hS (hA (by omega)) (by omega) (v := k + 1) ⟨Nat.le_refl _, by omega⟩ hk ff_X8_15 rfl rfl (fun _ => ⟨rfl, rfl⟩) rfl dX8_init_14 (fun H locs hP hS hs9 => ?_)
  rw [hsz] at hs9
  have hsz := hs9
  have hZ : Z0 (k + 2) (sI μ0 k 0 (0)) (zs z k 1) := hZ.zs (by omega)
  refine lv_aload_n hx hb dX8_init_17 rfl (lv_at hl 0 rfl) ?_
  refine lv_bipush (v := (20)) hx hb dX8_init_18 (by decide) ?_
  refine a_newarr C hP hS hsz (by omega) (Or.inl ⟨rfl, rfl⟩) (kd_X8_2 hk) (by decide) (by decide) (by decide) ac_int (hZ (k + 2) (Nat.le_refl _)).1 (hZ (k + 2) (Nat.le_refl _)).2.1 (by decide) (by decide) dX8_init_20 (fun H hP hS hsz _ => ?_)
  have hP : fP (wz w k (k + 3) (zs z k 1)) (sI μ0 k 0 (0)) H := hP
  have hsz : H.size = w.2.2.1 (k + 3) := hsz
  have hZ : Z0 (k + 3) (sI μ0 k 0 (0)) (zs z k 1) := hZ.mono (by omega)
  refine a_p3 C hP hS (hA (by omega)) (by omega) (v := k + 2) ⟨Nat.le_refl _, by omega⟩ hk ff_X8_19 rfl rfl (fun _ => ⟨rfl, rfl⟩) rfl dX8_init_22 (fun H locs hP hS hs9 => ?_)
  rw [hsz] at hs9
  have hsz := hs9
  have hZ : Z0 (k + 3) (sI μ0 k 0 (0)) (zs (zs z k 1) k 2) := hZ.zs (by omega)
  refine lv_aload_n hx hb dX8_init_25 rfl (lv_at hl 0 rfl) ?_
  refine lv_bipush (v := (20)) hx hb dX8_init_26 (by decide) ?_
  refine a_newarr C hP hS hsz (by omega) (Or.inl ⟨rfl, rfl⟩) (kd_X8_3 hk) (by decide) (by decide) (by decide) ac_int (hZ (k + 3) (Nat.le_refl _)).1 (hZ (k + 3) (Nat.le_refl _)).2.1 (by decide) (by decide) dX8_init_28 (fun H hP hS hsz _ => ?_)
  have hP : fP (wz w k (k + 4) (zs (zs z k 1) k 2)) (sI μ0 k 0 (0)) H := hP
  have hsz : H.size = w.2.2.1 (k + 4) := hsz
  have hZ : Z0 (k + 4) (sI μ0 k 0 (0)) (zs (zs z k 1) k 2) := hZ.mono (by omega)
  refine a_p3 C hP hS (hA (by omega)) (by omega) (v := k + 3) ⟨Nat.le_refl _, by omega⟩ hk ff_X8_22 rfl rfl (fun _ => ⟨rfl, rfl⟩) rfl dX8_init_30 (fun H locs hP hS hs9 => ?_)
  rw [hsz] at hs9
  have hsz := hs9
  have hZ : Z0 (k + 4) (sI μ0 k 0 (0)) (zs (zs (zs z k 1) k 2) k 3) := hZ.zs (by omega)
  have hP : fP (wz w k (k + 4) (zm z k (k + 4))) (mg μ0 ini k (k + 4)) H := fP_congr (by omega) hP (fin_X8 hk h0)
  exact a_ret C hr hP hS hsz dX8_init_33
theorem kd_X1_1 {k : Nat} (h : kd k = (4, 1)) : kd (k + 1) = (0, 4) := by have e := ko_1 h; subst e <;> decide +kernel
theorem kd_X1_2 {k : Nat} (h : kd k = (4, 1)) : kd (k + 2) = (0, 4) := by have e := ko_1 h; subst e <;> decide +kernel
theorem kd_X1_3 {k : Nat} (h : kd k = (4, 1)) : kd (k + 3) = (3, 24) := by have e := ko_1 h; subst e <;> decide +kernel
theorem kr_X1_3 {k : Nat} (h : kd k = (4, 1)) (i : Nat) (hi : i < 24) : kd (k + 3 + 1 + i) = (0, 6) := by
  revert i
  have e := ko_1 h; subst e <;> decide +kernel
theorem kd_X1_4 {k : Nat} (h : kd k = (4, 1)) : kd (k + 4) = (0, 6) := by have e := ko_1 h; subst e <;> decide +kernel
theorem kd_X1_5 {k : Nat} (h : kd k = (4, 1)) : kd (k + 5) = (0, 6) := by have e := ko_1 h; subst e <;> decide +kernel
theorem kd_X1_6 {k : Nat} (h : kd k = (4, 1)) : kd (k + 6) = (0, 6) := by have e := ko_1 h; subst e <;> decide +kernel
theorem kd_X1_7 {k : Nat} (h : kd k = (4, 1)) : kd (k + 7) = (0, 6) := by have e := ko_1 h; subst e <;> decide +kernel
theorem kd_X1_8 {k : Nat} (h : kd k = (4, 1)) : kd (k + 8) = (0, 6) := by have e := ko_1 h; subst e <;> decide +kernel
theorem kd_X1_9 {k : Nat} (h : kd k = (4, 1)) : kd (k + 9) = (0, 6) := by have e := ko_1 h; subst e <;> decide +kernel
theorem kd_X1_10 {k : Nat} (h : kd k = (4, 1)) : kd (k + 10) = (0, 6) := by have e := ko_1 h; subst e <;> decide +kernel
theorem kd_X1_11 {k : Nat} (h : kd k = (4, 1)) : kd (k + 11) = (0, 6) := by have e := ko_1 h; subst e <;> decide +kernel
theorem kd_X1_12 {k : Nat} (h : kd k = (4, 1)) : kd (k + 12) = (0, 6) := by have e := ko_1 h; subst e <;> decide +kernel
theorem kd_X1_13 {k : Nat} (h : kd k = (4, 1)) : kd (k + 13) = (0, 6) := by have e := ko_1 h; subst e <;> decide +kernel
theorem kd_X1_14 {k : Nat} (h : kd k = (4, 1)) : kd (k + 14) = (0, 6) := by have e := ko_1 h; subst e <;> decide +kernel
theorem kd_X1_15 {k : Nat} (h : kd k = (4, 1)) : kd (k + 15) = (0, 6) := by have e := ko_1 h; subst e <;> decide +kernel
theorem kd_X1_16 {k : Nat} (h : kd k = (4, 1)) : kd (k + 16) = (0, 6) := by have e := ko_1 h; subst e <;> decide +kernel
theorem kd_X1_17 {k : Nat} (h : kd k = (4, 1)) : kd (k + 17) = (0, 6) := by have e := ko_1 h; subst e <;> decide +kernel
theorem kd_X1_18 {k : Nat} (h : kd k = (4, 1)) : kd (k + 18) = (0, 6) := by have e := ko_1 h; subst e <;> decide +kernel
theorem kd_X1_19 {k : Nat} (h : kd k = (4, 1)) : kd (k + 19) = (0, 6) := by have e := ko_1 h; subst e <;> decide +kernel
theorem kd_X1_20 {k : Nat} (h : kd k = (4, 1)) : kd (k + 20) = (0, 6) := by have e := ko_1 h; subst e <;> decide +kernel
theorem kd_X1_21 {k : Nat} (h : kd k = (4, 1)) : kd (k + 21) = (0, 6) := by have e := ko_1 h; subst e <;> decide +kernel
theorem kd_X1_22 {k : Nat} (h : kd k = (4, 1)) : kd (k + 22) = (0, 6) := by have e := ko_1 h; subst e <;> decide +kernel
theorem kd_X1_23 {k : Nat} (h : kd k = (4, 1)) : kd (k + 23) = (0, 6) := by have e := ko_1 h; subst e <;> decide +kernel
theorem kd_X1_24 {k : Nat} (h : kd k = (4, 1)) : kd (k + 24) = (0, 6) := by have e := ko_1 h; subst e <;> decide +kernel
theorem kd_X1_25 {k : Nat} (h : kd k = (4, 1)) : kd (k + 25) = (0, 6) := by have e := ko_1 h; subst e <;> decide +kernel
theorem kd_X1_26 {k : Nat} (h : kd k = (4, 1)) : kd (k + 26) = (0, 6) := by have e := ko_1 h; subst e <;> decide +kernel
theorem kd_X1_27 {k : Nat} (h : kd k = (4, 1)) : kd (k + 27) = (0, 6) := by have e := ko_1 h; subst e <;> decide +kernel
theorem kd_X1_28 {k : Nat} (h : kd k = (4, 1)) : kd (k + 28) = (3, 6) := by have e := ko_1 h; subst e <;> decide +kernel
theorem kr_X1_28 {k : Nat} (h : kd k = (4, 1)) (i : Nat) (hi : i < 6) : kd (k + 28 + 1 + i) = (0, 6) := by
  revert i
  have e := ko_1 h; subst e <;> decide +kernel
theorem kd_X1_29 {k : Nat} (h : kd k = (4, 1)) : kd (k + 29) = (0, 6) := by have e := ko_1 h; subst e <;> decide +kernel
theorem kd_X1_30 {k : Nat} (h : kd k = (4, 1)) : kd (k + 30) = (0, 6) := by have e := ko_1 h; subst e <;> decide +kernel
theorem kd_X1_31 {k : Nat} (h : kd k = (4, 1)) : kd (k + 31) = (0, 6) := by have e := ko_1 h; subst e <;> decide +kernel
theorem kd_X1_32 {k : Nat} (h : kd k = (4, 1)) : kd (k + 32) = (0, 6) := by have e := ko_1 h; subst e <;> decide +kernel
theorem kd_X1_33 {k : Nat} (h : kd k = (4, 1)) : kd (k + 33) = (0, 6) := by have e := ko_1 h; subst e <;> decide +kernel
theorem kd_X1_34 {k : Nat} (h : kd k = (4, 1)) : kd (k + 34) = (0, 6) := by have e := ko_1 h; subst e <;> decide +kernel
theorem kd_X1_35 {k : Nat} (h : kd k = (4, 1)) : kd (k + 35) = (3, 5) := by have e := ko_1 h; subst e <;> decide +kernel
theorem kr_X1_35 {k : Nat} (h : kd k = (4, 1)) (i : Nat) (hi : i < 5) : kd (k + 35 + 1 + i) = (0, 6) := by
  revert i
  have e := ko_1 h; subst e <;> decide +kernel
theorem kd_X1_36 {k : Nat} (h : kd k = (4, 1)) : kd (k + 36) = (0, 6) := by have e := ko_1 h; subst e <;> decide +kernel
theorem kd_X1_37 {k : Nat} (h : kd k = (4, 1)) : kd (k + 37) = (0, 6) := by have e := ko_1 h; subst e <;> decide +kernel
theorem kd_X1_38 {k : Nat} (h : kd k = (4, 1)) : kd (k + 38) = (0, 6) := by have e := ko_1 h; subst e <;> decide +kernel
theorem kd_X1_39 {k : Nat} (h : kd k = (4, 1)) : kd (k + 39) = (0, 6) := by have e := ko_1 h; subst e <;> decide +kernel
theorem kd_X1_40 {k : Nat} (h : kd k = (4, 1)) : kd (k + 40) = (0, 6) := by have e := ko_1 h; subst e <;> decide +kernel
theorem kb_X1 {k : Nat} (h : kd k = (4, 1)) : k + 41 ≤ 221 := by have e := ko_1 h; subst e <;> decide
def ri_X1 : Room := { frames := 1, cells := 40, slots := 253, locals := 20 }
set_option maxHeartbeats 4000000 in
set_option maxRecDepth 100000 in
theorem fin_X1 {k : Nat} (hk : kd k = (4, 1)) {z : Nat → Nat → Bool} {μ0 : fMem} (h0 : Z0 k μ0 z) : ∀ a, k ≤ a → a < k + 41 → (sI (sI (sI (sI (sI μ0 k 1 (0)) k 2 (0)) k 3 (0)) k 4 (0)) k 5 (0)).1 a = (mg μ0 ini k (k + 41)).1 a ∧ (sI (sI (sI (sI (sI μ0 k 1 (0)) k 2 (0)) k 3 (0)) k 4 (0)) k 5 (0)).2.1 a = (mg μ0 ini k (k + 41)).2.1 a ∧ ∀ ci, kd a = (4, ci) → ∀ j, j < fN ci → 3 ≤ ft ci j → (zs (zs (zs (zs (zs z k 0) k 6) k 7) k 8) k 9) a j = zm z k (k + 41) a j ∧ (4 ≤ ft ci j → (sI (sI (sI (sI (sI μ0 k 1 (0)) k 2 (0)) k 3 (0)) k 4 (0)) k 5 (0)).2.2 a j = (mg μ0 ini k (k + 41)).2.2 a j) := by
  intro a h1 h2
  have e1 : (mg μ0 ini k (k + 41)).1 a = iniI a := if_pos ⟨h1, h2⟩
  have e2 : (mg μ0 ini k (k + 41)).2.1 a = iniL a := if_pos ⟨h1, h2⟩
  have e3 : (mg μ0 ini k (k + 41)).2.2 a = iniR a := if_pos ⟨h1, h2⟩
  have e4 : ∀ j, zm z k (k + 41) a j = true := fun j => if_pos ⟨h1, h2⟩
  rw [e1, e2, e3]
  rcases (show a = k ∨ a = k + 1 ∨ a = k + 2 ∨ a = k + 3 ∨ a = k + 4 ∨ a = k + 5 ∨ a = k + 6 ∨ a = k + 7 ∨ a = k + 8 ∨ a = k + 9 ∨ a = k + 10 ∨ a = k + 11 ∨ a = k + 12 ∨ a = k + 13 ∨ a = k + 14 ∨ a = k + 15 ∨ a = k + 16 ∨ a = k + 17 ∨ a = k + 18 ∨ a = k + 19 ∨ a = k + 20 ∨ a = k + 21 ∨ a = k + 22 ∨ a = k + 23 ∨ a = k + 24 ∨ a = k + 25 ∨ a = k + 26 ∨ a = k + 27 ∨ a = k + 28 ∨ a = k + 29 ∨ a = k + 30 ∨ a = k + 31 ∨ a = k + 32 ∨ a = k + 33 ∨ a = k + 34 ∨ a = k + 35 ∨ a = k + 36 ∨ a = k + 37 ∨ a = k + 38 ∨ a = k + 39 ∨ a = k + 40 by omega) with rfl | rfl | rfl | rfl | rfl | rfl | rfl | rfl | rfl | rfl | rfl | rfl | rfl | rfl | rfl | rfl | rfl | rfl | rfl | rfl | rfl | rfl | rfl | rfl | rfl | rfl | rfl | rfl | rfl | rfl | rfl | rfl | rfl | rfl | rfl | rfl | rfl | rfl | rfl | rfl | rfl
  · have z1 := (h0 a (Nat.le_refl _)).1
    have z2 := (h0 a (Nat.le_refl _)).2.1
    refine ⟨?_, ?_, fun ci hci j hj h3 => ?_⟩
    · funext j
      simp only [sI, sL, sR, sRow, sRowL, fu, mg, z1]
      have e := ko_1 hk; subst e <;> simp only [iniI] <;> (repeat (first | rfl | split | omega | simp_all))
    · funext j
      simp only [sI, sL, sR, sRow, sRowL, fu, mg, z2]
      have e := ko_1 hk; subst e <;> simp only [iniL] <;> (repeat (first | rfl | split | omega | simp_all))
    · rw [hk] at hci; cases hci
      rw [e4]
      rcases (show j = 0 ∨ j = 1 ∨ j = 2 ∨ j = 3 ∨ j = 4 ∨ j = 5 ∨ j = 6 ∨ j = 7 ∨ j = 8 ∨ j = 9 by simp only [fN] at hj; omega) with rfl | rfl | rfl | rfl | rfl | rfl | rfl | rfl | rfl | rfl
      all_goals first | exact absurd h3 (by decide) | skip
      all_goals refine ⟨by simp [zs, zm], fun h4 => ?_⟩
      all_goals first | exact absurd h4 (by decide) | skip
      all_goals (simp only [sI, sL, sR, sRow, sRowL, fu, mg]; have e := ko_1 hk; subst e <;> simp [iniR])
  · have z1 := (h0 (k + 1) (by omega)).1
    have z2 := (h0 (k + 1) (by omega)).2.1
    refine ⟨?_, ?_, fun ci hci j hj h3 => ?_⟩
    · funext j
      simp only [sI, sL, sR, sRow, sRowL, fu, mg, z1]
      have e := ko_1 hk; subst e <;> simp [iniI]
    · funext j
      simp only [sI, sL, sR, sRow, sRowL, fu, mg, z2]
      have e := ko_1 hk; subst e <;> simp [iniL]
    · exact (kd_ne4 (kd_X1_1 hk) (by decide) hci).elim
  · have z1 := (h0 (k + 2) (by omega)).1
    have z2 := (h0 (k + 2) (by omega)).2.1
    refine ⟨?_, ?_, fun ci hci j hj h3 => ?_⟩
    · funext j
      simp only [sI, sL, sR, sRow, sRowL, fu, mg, z1]
      have e := ko_1 hk; subst e <;> simp [iniI]
    · funext j
      simp only [sI, sL, sR, sRow, sRowL, fu, mg, z2]
      have e := ko_1 hk; subst e <;> simp [iniL]
    · exact (kd_ne4 (kd_X1_2 hk) (by decide) hci).elim
  · have z1 := (h0 (k + 3) (by omega)).1
    have z2 := (h0 (k + 3) (by omega)).2.1
    refine ⟨?_, ?_, fun ci hci j hj h3 => ?_⟩
    · funext j
      simp only [sI, sL, sR, sRow, sRowL, fu, mg, z1]
      have e := ko_1 hk; subst e <;> simp [iniI]
    · funext j
      simp only [sI, sL, sR, sRow, sRowL, fu, mg, z2]
      have e := ko_1 hk; subst e <;> simp [iniL]
    · exact (kd_ne4 (kd_X1_3 hk) (by decide) hci).elim
  · have z1 := (h0 (k + 4) (by omega)).1
    have z2 := (h0 (k + 4) (by omega)).2.1
    refine ⟨?_, ?_, fun ci hci j hj h3 => ?_⟩
    · funext j
      simp only [sI, sL, sR, sRow, sRowL, fu, mg, z1]
      have e := ko_1 hk; subst e <;> simp [iniI]
    · funext j
      simp only [sI, sL, sR, sRow, sRowL, fu, mg, z2]
      have e := ko_1 hk; subst e <;> simp [iniL]
    · exact (kd_ne4 (kd_X1_4 hk) (by decide) hci).elim
  · have z1 := (h0 (k + 5) (by omega)).1
    have z2 := (h0 (k + 5) (by omega)).2.1
    refine ⟨?_, ?_, fun ci hci j hj h3 => ?_⟩
    · funext j
      simp only [sI, sL, sR, sRow, sRowL, fu, mg, z1]
      have e := ko_1 hk; subst e <;> simp [iniI]
    · funext j
      simp only [sI, sL, sR, sRow, sRowL, fu, mg, z2]
      have e := ko_1 hk; subst e <;> simp [iniL]
    · exact (kd_ne4 (kd_X1_5 hk) (by decide) hci).elim
  · have z1 := (h0 (k + 6) (by omega)).1
    have z2 := (h0 (k + 6) (by omega)).2.1
    refine ⟨?_, ?_, fun ci hci j hj h3 => ?_⟩
    · funext j
      simp only [sI, sL, sR, sRow, sRowL, fu, mg, z1]
      have e := ko_1 hk; subst e <;> simp [iniI]
    · funext j
      simp only [sI, sL, sR, sRow, sRowL, fu, mg, z2]
      have e := ko_1 hk; subst e <;> simp [iniL]
    · exact (kd_ne4 (kd_X1_6 hk) (by decide) hci).elim
  · have z1 := (h0 (k + 7) (by omega)).1
    have z2 := (h0 (k + 7) (by omega)).2.1
    refine ⟨?_, ?_, fun ci hci j hj h3 => ?_⟩
    · funext j
      simp only [sI, sL, sR, sRow, sRowL, fu, mg, z1]
      have e := ko_1 hk; subst e <;> simp [iniI]
    · funext j
      simp only [sI, sL, sR, sRow, sRowL, fu, mg, z2]
      have e := ko_1 hk; subst e <;> simp [iniL]
    · exact (kd_ne4 (kd_X1_7 hk) (by decide) hci).elim
  · have z1 := (h0 (k + 8) (by omega)).1
    have z2 := (h0 (k + 8) (by omega)).2.1
    refine ⟨?_, ?_, fun ci hci j hj h3 => ?_⟩
    · funext j
      simp only [sI, sL, sR, sRow, sRowL, fu, mg, z1]
      have e := ko_1 hk; subst e <;> simp [iniI]
    · funext j
      simp only [sI, sL, sR, sRow, sRowL, fu, mg, z2]
      have e := ko_1 hk; subst e <;> simp [iniL]
    · exact (kd_ne4 (kd_X1_8 hk) (by decide) hci).elim
  · have z1 := (h0 (k + 9) (by omega)).1
    have z2 := (h0 (k + 9) (by omega)).2.1
    refine ⟨?_, ?_, fun ci hci j hj h3 => ?_⟩
    · funext j
      simp only [sI, sL, sR, sRow, sRowL, fu, mg, z1]
      have e := ko_1 hk; subst e <;> simp [iniI]
    · funext j
      simp only [sI, sL, sR, sRow, sRowL, fu, mg, z2]
      have e := ko_1 hk; subst e <;> simp [iniL]
    · exact (kd_ne4 (kd_X1_9 hk) (by decide) hci).elim
  · have z1 := (h0 (k + 10) (by omega)).1
    have z2 := (h0 (k + 10) (by omega)).2.1
    refine ⟨?_, ?_, fun ci hci j hj h3 => ?_⟩
    · funext j
      simp only [sI, sL, sR, sRow, sRowL, fu, mg, z1]
      have e := ko_1 hk; subst e <;> simp [iniI]
    · funext j
      simp only [sI, sL, sR, sRow, sRowL, fu, mg, z2]
      have e := ko_1 hk; subst e <;> simp [iniL]
    · exact (kd_ne4 (kd_X1_10 hk) (by decide) hci).elim
  · have z1 := (h0 (k + 11) (by omega)).1
    have z2 := (h0 (k + 11) (by omega)).2.1
    refine ⟨?_, ?_, fun ci hci j hj h3 => ?_⟩
    · funext j
      simp only [sI, sL, sR, sRow, sRowL, fu, mg, z1]
      have e := ko_1 hk; subst e <;> simp [iniI]
    · funext j
      simp only [sI, sL, sR, sRow, sRowL, fu, mg, z2]
      have e := ko_1 hk; subst e <;> simp [iniL]
    · exact (kd_ne4 (kd_X1_11 hk) (by decide) hci).elim
  · have z1 := (h0 (k + 12) (by omega)).1
    have z2 := (h0 (k + 12) (by omega)).2.1
    refine ⟨?_, ?_, fun ci hci j hj h3 => ?_⟩
    · funext j
      simp only [sI, sL, sR, sRow, sRowL, fu, mg, z1]
      have e := ko_1 hk; subst e <;> simp [iniI]
    · funext j
      simp only [sI, sL, sR, sRow, sRowL, fu, mg, z2]
      have e := ko_1 hk; subst e <;> simp [iniL]
    · exact (kd_ne4 (kd_X1_12 hk) (by decide) hci).elim
  · have z1 := (h0 (k + 13) (by omega)).1
    have z2 := (h0 (k + 13) (by omega)).2.1
    refine ⟨?_, ?_, fun ci hci j hj h3 => ?_⟩
    · funext j
      simp only [sI, sL, sR, sRow, sRowL, fu, mg, z1]
      have e := ko_1 hk; subst e <;> simp [iniI]
    · funext j
      simp only [sI, sL, sR, sRow, sRowL, fu, mg, z2]
      have e := ko_1 hk; subst e <;> simp [iniL]
    · exact (kd_ne4 (kd_X1_13 hk) (by decide) hci).elim
  · have z1 := (h0 (k + 14) (by omega)).1
    have z2 := (h0 (k + 14) (by omega)).2.1
    refine ⟨?_, ?_, fun ci hci j hj h3 => ?_⟩
    · funext j
      simp only [sI, sL, sR, sRow, sRowL, fu, mg, z1]
      have e := ko_1 hk; subst e <;> simp [iniI]
    · funext j
      simp only [sI, sL, sR, sRow, sRowL, fu, mg, z2]
      have e := ko_1 hk; subst e <;> simp [iniL]
    · exact (kd_ne4 (kd_X1_14 hk) (by decide) hci).elim
  · have z1 := (h0 (k + 15) (by omega)).1
    have z2 := (h0 (k + 15) (by omega)).2.1
    refine ⟨?_, ?_, fun ci hci j hj h3 => ?_⟩
    · funext j
      simp only [sI, sL, sR, sRow, sRowL, fu, mg, z1]
      have e := ko_1 hk; subst e <;> simp [iniI]
    · funext j
      simp only [sI, sL, sR, sRow, sRowL, fu, mg, z2]
      have e := ko_1 hk; subst e <;> simp [iniL]
    · exact (kd_ne4 (kd_X1_15 hk) (by decide) hci).elim
  · have z1 := (h0 (k + 16) (by omega)).1
    have z2 := (h0 (k + 16) (by omega)).2.1
    refine ⟨?_, ?_, fun ci hci j hj h3 => ?_⟩
    · funext j
      simp only [sI, sL, sR, sRow, sRowL, fu, mg, z1]
      have e := ko_1 hk; subst e <;> simp [iniI]
    · funext j
      simp only [sI, sL, sR, sRow, sRowL, fu, mg, z2]
      have e := ko_1 hk; subst e <;> simp [iniL]
    · exact (kd_ne4 (kd_X1_16 hk) (by decide) hci).elim
  · have z1 := (h0 (k + 17) (by omega)).1
    have z2 := (h0 (k + 17) (by omega)).2.1
    refine ⟨?_, ?_, fun ci hci j hj h3 => ?_⟩
    · funext j
      simp only [sI, sL, sR, sRow, sRowL, fu, mg, z1]
      have e := ko_1 hk; subst e <;> simp [iniI]
    · funext j
      simp only [sI, sL, sR, sRow, sRowL, fu, mg, z2]
      have e := ko_1 hk; subst e <;> simp [iniL]
    · exact (kd_ne4 (kd_X1_17 hk) (by decide) hci).elim
  · have z1 := (h0 (k + 18) (by omega)).1
    have z2 := (h0 (k + 18) (by omega)).2.1
    refine ⟨?_, ?_, fun ci hci j hj h3 => ?_⟩
    · funext j
      simp only [sI, sL, sR, sRow, sRowL, fu, mg, z1]
      have e := ko_1 hk; subst e <;> simp [iniI]
    · funext j
      simp only [sI, sL, sR, sRow, sRowL, fu, mg, z2]
      have e := ko_1 hk; subst e <;> simp [iniL]
    · exact (kd_ne4 (kd_X1_18 hk) (by decide) hci).elim
  · have z1 := (h0 (k + 19) (by omega)).1
    have z2 := (h0 (k + 19) (by omega)).2.1
    refine ⟨?_, ?_, fun ci hci j hj h3 => ?_⟩
    · funext j
      simp only [sI, sL, sR, sRow, sRowL, fu, mg, z1]
      have e := ko_1 hk; subst e <;> simp [iniI]
    · funext j
      simp only [sI, sL, sR, sRow, sRowL, fu, mg, z2]
      have e := ko_1 hk; subst e <;> simp [iniL]
    · exact (kd_ne4 (kd_X1_19 hk) (by decide) hci).elim
  · have z1 := (h0 (k + 20) (by omega)).1
    have z2 := (h0 (k + 20) (by omega)).2.1
    refine ⟨?_, ?_, fun ci hci j hj h3 => ?_⟩
    · funext j
      simp only [sI, sL, sR, sRow, sRowL, fu, mg, z1]
      have e := ko_1 hk; subst e <;> simp [iniI]
    · funext j
      simp only [sI, sL, sR, sRow, sRowL, fu, mg, z2]
      have e := ko_1 hk; subst e <;> simp [iniL]
    · exact (kd_ne4 (kd_X1_20 hk) (by decide) hci).elim
  · have z1 := (h0 (k + 21) (by omega)).1
    have z2 := (h0 (k + 21) (by omega)).2.1
    refine ⟨?_, ?_, fun ci hci j hj h3 => ?_⟩
    · funext j
      simp only [sI, sL, sR, sRow, sRowL, fu, mg, z1]
      have e := ko_1 hk; subst e <;> simp [iniI]
    · funext j
      simp only [sI, sL, sR, sRow, sRowL, fu, mg, z2]
      have e := ko_1 hk; subst e <;> simp [iniL]
    · exact (kd_ne4 (kd_X1_21 hk) (by decide) hci).elim
  · have z1 := (h0 (k + 22) (by omega)).1
    have z2 := (h0 (k + 22) (by omega)).2.1
    refine ⟨?_, ?_, fun ci hci j hj h3 => ?_⟩
    · funext j
      simp only [sI, sL, sR, sRow, sRowL, fu, mg, z1]
      have e := ko_1 hk; subst e <;> simp [iniI]
    · funext j
      simp only [sI, sL, sR, sRow, sRowL, fu, mg, z2]
      have e := ko_1 hk; subst e <;> simp [iniL]
    · exact (kd_ne4 (kd_X1_22 hk) (by decide) hci).elim
  · have z1 := (h0 (k + 23) (by omega)).1
    have z2 := (h0 (k + 23) (by omega)).2.1
    refine ⟨?_, ?_, fun ci hci j hj h3 => ?_⟩
    · funext j
      simp only [sI, sL, sR, sRow, sRowL, fu, mg, z1]
      have e := ko_1 hk; subst e <;> simp [iniI]
    · funext j
      simp only [sI, sL, sR, sRow, sRowL, fu, mg, z2]
      have e := ko_1 hk; subst e <;> simp [iniL]
    · exact (kd_ne4 (kd_X1_23 hk) (by decide) hci).elim
  · have z1 := (h0 (k + 24) (by omega)).1
    have z2 := (h0 (k + 24) (by omega)).2.1
    refine ⟨?_, ?_, fun ci hci j hj h3 => ?_⟩
    · funext j
      simp only [sI, sL, sR, sRow, sRowL, fu, mg, z1]
      have e := ko_1 hk; subst e <;> simp [iniI]
    · funext j
      simp only [sI, sL, sR, sRow, sRowL, fu, mg, z2]
      have e := ko_1 hk; subst e <;> simp [iniL]
    · exact (kd_ne4 (kd_X1_24 hk) (by decide) hci).elim
  · have z1 := (h0 (k + 25) (by omega)).1
    have z2 := (h0 (k + 25) (by omega)).2.1
    refine ⟨?_, ?_, fun ci hci j hj h3 => ?_⟩
    · funext j
      simp only [sI, sL, sR, sRow, sRowL, fu, mg, z1]
      have e := ko_1 hk; subst e <;> simp [iniI]
    · funext j
      simp only [sI, sL, sR, sRow, sRowL, fu, mg, z2]
      have e := ko_1 hk; subst e <;> simp [iniL]
    · exact (kd_ne4 (kd_X1_25 hk) (by decide) hci).elim
  · have z1 := (h0 (k + 26) (by omega)).1
    have z2 := (h0 (k + 26) (by omega)).2.1
    refine ⟨?_, ?_, fun ci hci j hj h3 => ?_⟩
    · funext j
      simp only [sI, sL, sR, sRow, sRowL, fu, mg, z1]
      have e := ko_1 hk; subst e <;> simp [iniI]
    · funext j
      simp only [sI, sL, sR, sRow, sRowL, fu, mg, z2]
      have e := ko_1 hk; subst e <;> simp [iniL]
    · exact (kd_ne4 (kd_X1_26 hk) (by decide) hci).elim
  · have z1 := (h0 (k + 27) (by omega)).1
    have z2 := (h0 (k + 27) (by omega)).2.1
    refine ⟨?_, ?_, fun ci hci j hj h3 => ?_⟩
    · funext j
      simp only [sI, sL, sR, sRow, sRowL, fu, mg, z1]
      have e := ko_1 hk; subst e <;> simp [iniI]
    · funext j
      simp only [sI, sL, sR, sRow, sRowL, fu, mg, z2]
      have e := ko_1 hk; subst e <;> simp [iniL]
    · exact (kd_ne4 (kd_X1_27 hk) (by decide) hci).elim
  · have z1 := (h0 (k + 28) (by omega)).1
    have z2 := (h0 (k + 28) (by omega)).2.1
    refine ⟨?_, ?_, fun ci hci j hj h3 => ?_⟩
    · funext j
      simp only [sI, sL, sR, sRow, sRowL, fu, mg, z1]
      have e := ko_1 hk; subst e <;> simp [iniI]
    · funext j
      simp only [sI, sL, sR, sRow, sRowL, fu, mg, z2]
      have e := ko_1 hk; subst e <;> simp [iniL]
    · exact (kd_ne4 (kd_X1_28 hk) (by decide) hci).elim
  · have z1 := (h0 (k + 29) (by omega)).1
    have z2 := (h0 (k + 29) (by omega)).2.1
    refine ⟨?_, ?_, fun ci hci j hj h3 => ?_⟩
    · funext j
      simp only [sI, sL, sR, sRow, sRowL, fu, mg, z1]
      have e := ko_1 hk; subst e <;> simp [iniI]
    · funext j
      simp only [sI, sL, sR, sRow, sRowL, fu, mg, z2]
      have e := ko_1 hk; subst e <;> simp [iniL]
    · exact (kd_ne4 (kd_X1_29 hk) (by decide) hci).elim
  · have z1 := (h0 (k + 30) (by omega)).1
    have z2 := (h0 (k + 30) (by omega)).2.1
    refine ⟨?_, ?_, fun ci hci j hj h3 => ?_⟩
    · funext j
      simp only [sI, sL, sR, sRow, sRowL, fu, mg, z1]
      have e := ko_1 hk; subst e <;> simp [iniI]
    · funext j
      simp only [sI, sL, sR, sRow, sRowL, fu, mg, z2]
      have e := ko_1 hk; subst e <;> simp [iniL]
    · exact (kd_ne4 (kd_X1_30 hk) (by decide) hci).elim
  · have z1 := (h0 (k + 31) (by omega)).1
    have z2 := (h0 (k + 31) (by omega)).2.1
    refine ⟨?_, ?_, fun ci hci j hj h3 => ?_⟩
    · funext j
      simp only [sI, sL, sR, sRow, sRowL, fu, mg, z1]
      have e := ko_1 hk; subst e <;> simp [iniI]
    · funext j
      simp only [sI, sL, sR, sRow, sRowL, fu, mg, z2]
      have e := ko_1 hk; subst e <;> simp [iniL]
    · exact (kd_ne4 (kd_X1_31 hk) (by decide) hci).elim
  · have z1 := (h0 (k + 32) (by omega)).1
    have z2 := (h0 (k + 32) (by omega)).2.1
    refine ⟨?_, ?_, fun ci hci j hj h3 => ?_⟩
    · funext j
      simp only [sI, sL, sR, sRow, sRowL, fu, mg, z1]
      have e := ko_1 hk; subst e <;> simp [iniI]
    · funext j
      simp only [sI, sL, sR, sRow, sRowL, fu, mg, z2]
      have e := ko_1 hk; subst e <;> simp [iniL]
    · exact (kd_ne4 (kd_X1_32 hk) (by decide) hci).elim
  · have z1 := (h0 (k + 33) (by omega)).1
    have z2 := (h0 (k + 33) (by omega)).2.1
    refine ⟨?_, ?_, fun ci hci j hj h3 => ?_⟩
    · funext j
      simp only [sI, sL, sR, sRow, sRowL, fu, mg, z1]
      have e := ko_1 hk; subst e <;> simp [iniI]
    · funext j
      simp only [sI, sL, sR, sRow, sRowL, fu, mg, z2]
      have e := ko_1 hk; subst e <;> simp [iniL]
    · exact (kd_ne4 (kd_X1_33 hk) (by decide) hci).elim
  · have z1 := (h0 (k + 34) (by omega)).1
    have z2 := (h0 (k + 34) (by omega)).2.1
    refine ⟨?_, ?_, fun ci hci j hj h3 => ?_⟩
    · funext j
      simp only [sI, sL, sR, sRow, sRowL, fu, mg, z1]
      have e := ko_1 hk; subst e <;> simp [iniI]
    · funext j
      simp only [sI, sL, sR, sRow, sRowL, fu, mg, z2]
      have e := ko_1 hk; subst e <;> simp [iniL]
    · exact (kd_ne4 (kd_X1_34 hk) (by decide) hci).elim
  · have z1 := (h0 (k + 35) (by omega)).1
    have z2 := (h0 (k + 35) (by omega)).2.1
    refine ⟨?_, ?_, fun ci hci j hj h3 => ?_⟩
    · funext j
      simp only [sI, sL, sR, sRow, sRowL, fu, mg, z1]
      have e := ko_1 hk; subst e <;> simp [iniI]
    · funext j
      simp only [sI, sL, sR, sRow, sRowL, fu, mg, z2]
      have e := ko_1 hk; subst e <;> simp [iniL]
    · exact (kd_ne4 (kd_X1_35 hk) (by decide) hci).elim
  · have z1 := (h0 (k + 36) (by omega)).1
    have z2 := (h0 (k + 36) (by omega)).2.1
    refine ⟨?_, ?_, fun ci hci j hj h3 => ?_⟩
    · funext j
      simp only [sI, sL, sR, sRow, sRowL, fu, mg, z1]
      have e := ko_1 hk; subst e <;> simp [iniI]
    · funext j
      simp only [sI, sL, sR, sRow, sRowL, fu, mg, z2]
      have e := ko_1 hk; subst e <;> simp [iniL]
    · exact (kd_ne4 (kd_X1_36 hk) (by decide) hci).elim
  · have z1 := (h0 (k + 37) (by omega)).1
    have z2 := (h0 (k + 37) (by omega)).2.1
    refine ⟨?_, ?_, fun ci hci j hj h3 => ?_⟩
    · funext j
      simp only [sI, sL, sR, sRow, sRowL, fu, mg, z1]
      have e := ko_1 hk; subst e <;> simp [iniI]
    · funext j
      simp only [sI, sL, sR, sRow, sRowL, fu, mg, z2]
      have e := ko_1 hk; subst e <;> simp [iniL]
    · exact (kd_ne4 (kd_X1_37 hk) (by decide) hci).elim
  · have z1 := (h0 (k + 38) (by omega)).1
    have z2 := (h0 (k + 38) (by omega)).2.1
    refine ⟨?_, ?_, fun ci hci j hj h3 => ?_⟩
    · funext j
      simp only [sI, sL, sR, sRow, sRowL, fu, mg, z1]
      have e := ko_1 hk; subst e <;> simp [iniI]
    · funext j
      simp only [sI, sL, sR, sRow, sRowL, fu, mg, z2]
      have e := ko_1 hk; subst e <;> simp [iniL]
    · exact (kd_ne4 (kd_X1_38 hk) (by decide) hci).elim
  · have z1 := (h0 (k + 39) (by omega)).1
    have z2 := (h0 (k + 39) (by omega)).2.1
    refine ⟨?_, ?_, fun ci hci j hj h3 => ?_⟩
    · funext j
      simp only [sI, sL, sR, sRow, sRowL, fu, mg, z1]
      have e := ko_1 hk; subst e <;> simp [iniI]
    · funext j
      simp only [sI, sL, sR, sRow, sRowL, fu, mg, z2]
      have e := ko_1 hk; subst e <;> simp [iniL]
    · exact (kd_ne4 (kd_X1_39 hk) (by decide) hci).elim
  · have z1 := (h0 (k + 40) (by omega)).1
    have z2 := (h0 (k + 40) (by omega)).2.1
    refine ⟨?_, ?_, fun ci hci j hj h3 => ?_⟩
    · funext j
      simp only [sI, sL, sR, sRow, sRowL, fu, mg, z1]
      have e := ko_1 hk; subst e <;> simp [iniI]
    · funext j
      simp only [sI, sL, sR, sRow, sRowL, fu, mg, z2]
      have e := ko_1 hk; subst e <;> simp [iniL]
    · exact (kd_ne4 (kd_X1_40 hk) (by decide) hci).elim
set_option maxHeartbeats 4000000 in
set_option maxRecDepth 100000 in
theorem k_X1 (l : Launch) (w : fW) (hAD : fAD w) (k : Nat) (hk : kd k = (4, 1)) (z : Nat → Nat → Bool) (μ0 : fMem) (h0 : Z0 k μ0 z) : Met l yX1_init (.code yX1_init cX1_init 1 none :: gw) ri_X1 (cPc w k z μ0) (cQ w k (k + 41) (zm z k (k + 41)) (mg μ0 ini k (k + 41))) 40 253 (fun q => w.2.2.1 k ≤ q) := by
  have hkb := kb_X1 hk
  refine cmet_of hAD (by decide) rfl ?_ (by decide)
  intro p e s m below meth c ls C hr hP hs0 hl hS
  obtain ⟨hx, hb, hml, hown, hts, hK, -, hlk, hT, hNs, -⟩ := id C
  have hsz := hs0
  have hZ : Z0 (k + 1) μ0 z := h0.mono (Nat.le_succ k)
  have hA : ∀ {n : Nat}, n ≤ 221 → ∀ a, k ≤ a → a < n → (fun q => w.2.2.1 k ≤ q) (w.2.2.1 a) := fun hn a h1 h2 => hAD.up (n := a) h1 (by omega) (Nat.le_refl _)
  refine lv_aload_n hx hb dX1_init_0 rfl (lv_at hl 0 rfl) ?_
  refine W.objInit hx hb hown (hts _ ol_X1_3) (hts _ oi.1) (hts _ oi.2) rfl (by rw [hml]; exact hl.1) rfl dX1_init_1 (by decide) (Nat.le_of_ble_eq_true rfl) ?_
  refine W.eq (g2 := F0 m 4 ls []) rfl ?_
  refine lv_aload_n hx hb dX1_init_4 rfl (lv_at hl 0 rfl) ?_
  refine lv_iconst (v := (4)) hx hb dX1_init_5 (by decide) ?_
  refine a_newarr C hP hS hsz (by omega) (Or.inl ⟨rfl, rfl⟩) (kd_X1_1 hk) (by decide) (by decide) (by decide) ac_int (hZ (k + 1) (Nat.le_refl _)).1 (hZ (k + 1) (Nat.le_refl _)).2.1 (by decide) (by decide) dX1_init_6 (fun H hP hS hsz _ => ?_)
  have hP : fP (wz w k (k + 2) z) μ0 H := hP
  have hsz : H.size = w.2.2.1 (k + 2) := hsz
  have hZ : Z0 (k + 2) μ0 z := hZ.mono (by omega)
  refine a_p3 C hP hS (hA (by omega)) (by omega) (v := k + 1) ⟨Nat.le_refl _, by omega⟩ hk ff_X1_11 rfl rfl (fun _ => ⟨rfl, rfl⟩) rfl dX1_init_8 (fun H locs hP hS hs9 => ?_)
  rw [hsz] at hs9
  have hsz := hs9
  have hZ : Z0 (k + 2) μ0 (zs z k 0) := hZ.zs (by omega)
  refine lv_aload_n hx hb dX1_init_11 rfl (lv_at hl 0 rfl) ?_
  refine lv_iconst (v := (0)) hx hb dX1_init_12 (by decide) ?_
  refine a_p0 C hP hS (hA (by omega)) (by omega) ⟨Nat.le_refl _, by omega⟩ hk fp_X1_15 (Or.inl ⟨rfl, rfl⟩) dX1_init_13 (fun H locs hP hS hs9 => ?_)
  rw [hsz] at hs9
  have hsz := hs9
  have hZ : Z0 (k + 2) (sI μ0 k 1 (0)) (zs z k 0) := hZ.sI (by omega)
  refine lv_aload_n hx hb dX1_init_16 rfl (lv_at hl 0 rfl) ?_
  refine lv_iconst (v := (0)) hx hb dX1_init_17 (by decide) ?_
  refine a_p0 C hP hS (hA (by omega)) (by omega) ⟨Nat.le_refl _, by omega⟩ hk fp_X1_19 (Or.inl ⟨rfl, rfl⟩) dX1_init_18 (fun H locs hP hS hs9 => ?_)
  rw [hsz] at hs9
  have hsz := hs9
  have hZ : Z0 (k + 2) (sI (sI μ0 k 1 (0)) k 2 (0)) (zs z k 0) := hZ.sI (by omega)
  refine lv_aload_n hx hb dX1_init_21 rfl (lv_at hl 0 rfl) ?_
  refine lv_iconst (v := (0)) hx hb dX1_init_22 (by decide) ?_
  refine a_p0 C hP hS (hA (by omega)) (by omega) ⟨Nat.le_refl _, by omega⟩ hk fp_X1_22 (Or.inl ⟨rfl, rfl⟩) dX1_init_23 (fun H locs hP hS hs9 => ?_)
  rw [hsz] at hs9
  have hsz := hs9
  have hZ : Z0 (k + 2) (sI (sI (sI μ0 k 1 (0)) k 2 (0)) k 3 (0)) (zs z k 0) := hZ.sI (by omega)
  refine lv_aload_n hx hb dX1_init_26 rfl (lv_at hl 0 rfl) ?_
  refine lv_iconst (v := (0)) hx hb dX1_init_27 (by decide) ?_
  refine a_p0 C hP hS (hA (by omega)) (by omega) ⟨Nat.le_refl _, by omega⟩ hk fp_X1_25 (Or.inl ⟨rfl, rfl⟩) dX1_init_28 (fun H locs hP hS hs9 => ?_)
  rw [hsz] at hs9
  have hsz := hs9
  have hZ : Z0 (k + 2) (sI (sI (sI (sI μ0 k 1 (0)) k 2 (0)) k 3 (0)) k 4 (0)) (zs z k 0) := hZ.sI (by omega)
  refine lv_aload_n hx hb dX1_init_31 rfl (lv_at hl 0 rfl) ?_
  refine lv_iconst (v := (0)) hx hb dX1_init_32 (by decide) ?_
  refine a_p0 C hP hS (hA (by omega)) (by omega) ⟨Nat.le_refl _, by omega⟩ hk fp_X1_28 (Or.inl ⟨rfl, rfl⟩) dX1_init_33 (fun H locs hP hS hs9 => ?_)
  rw [hsz] at hs9
  have hsz := hs9
  have hZ : Z0 (k + 2) (sI (sI (sI (sI (sI μ0 k 1 (0)) k 2 (0)) k 3 (0)) k 4 (0)) k 5 (0)) (zs z k 0) := hZ.sI (by omega)
  refine lv_aload_n hx hb dX1_init_36 rfl (lv_at hl 0 rfl) ?_
  refine lv_iconst (v := (4)) hx hb dX1_init_37 (by decide) ?_
  refine a_newarr C hP hS hsz (by omega) (Or.inl ⟨rfl, rfl⟩) (kd_X1_2 hk) (by decide) (by decide) (by decide) ac_int (hZ (k + 2) (Nat.le_refl _)).1 (hZ (k + 2) (Nat.le_refl _)).2.1 (by decide) (by decide) dX1_init_38 (fun H hP hS hsz _ => ?_)
  have hP : fP (wz w k (k + 3) (zs z k 0)) (sI (sI (sI (sI (sI μ0 k 1 (0)) k 2 (0)) k 3 (0)) k 4 (0)) k 5 (0)) H := hP
  have hsz : H.size = w.2.2.1 (k + 3) := hsz
  have hZ : Z0 (k + 3) (sI (sI (sI (sI (sI μ0 k 1 (0)) k 2 (0)) k 3 (0)) k 4 (0)) k 5 (0)) (zs z k 0) := hZ.mono (by omega)
  refine a_p3 C hP hS (hA (by omega)) (by omega) (v := k + 2) ⟨Nat.le_refl _, by omega⟩ hk ff_X1_31 rfl rfl (fun _ => ⟨rfl, rfl⟩) rfl dX1_init_40 (fun H locs hP hS hs9 => ?_)
  rw [hsz] at hs9
  have hsz := hs9
  have hZ : Z0 (k + 3) (sI (sI (sI (sI (sI μ0 k 1 (0)) k 2 (0)) k 3 (0)) k 4 (0)) k 5 (0)) (zs (zs z k 0) k 6) := hZ.zs (by omega)
  refine lv_aload_n hx hb dX1_init_43 rfl (lv_at hl 0 rfl) ?_
  refine lv_bipush (v := (24)) hx hb dX1_init_44 (by decide) ?_
  refine lv_bipush (v := (6)) hx hb dX1_init_46 (by decide) ?_
  refine a_mna (N := 24) (M := 6) C hP hS hsz (by omega) (kd_X1_3 hk) (fun i hi => kr_X1_3 hk i hi) (by decide) (by decide) (by decide) (by decide) (by decide) (by decide) cl_X1_34 ac_int (fun i _ => (hZ (k + 3 + 1 + i) (by omega)).1) (by decide) (by decide) dX1_init_48 (fun H hP hS hsz _ => ?_)
  have hP : fP (wz w k (k + 28) (zs (zs z k 0) k 6)) (sI (sI (sI (sI (sI μ0 k 1 (0)) k 2 (0)) k 3 (0)) k 4 (0)) k 5 (0)) H := hP
  have hsz : H.size = w.2.2.1 (k + 28) := hsz
  have hZ : Z0 (k + 28) (sI (sI (sI (sI (sI μ0 k 1 (0)) k 2 (0)) k 3 (0)) k 4 (0)) k 5 (0)) (zs (zs z k 0) k 6) := hZ.mono (by omega)
  refine a_p3 C hP hS (hA (by omega)) (by omega) (v := k + 3) ⟨Nat.le_refl _, by omega⟩ hk ff_X1_36 rfl rfl (fun _ => ⟨rfl, rfl⟩) rfl dX1_init_52 (fun H locs hP hS hs9 => ?_)
  rw [hsz] at hs9
  have hsz := hs9
  have hZ : Z0 (k + 28) (sI (sI (sI (sI (sI μ0 k 1 (0)) k 2 (0)) k 3 (0)) k 4 (0)) k 5 (0)) (zs (zs (zs z k 0) k 6) k 7) := hZ.zs (by omega)
  refine lv_aload_n hx hb dX1_init_55 rfl (lv_at hl 0 rfl) ?_
  refine lv_bipush (v := (6)) hx hb dX1_init_56 (by decide) ?_
  refine lv_bipush (v := (6)) hx hb dX1_init_58 (by decide) ?_
  refine a_mna (N := 6) (M := 6) C hP hS hsz (by omega) (kd_X1_28 hk) (fun i hi => kr_X1_28 hk i hi) (by decide) (by decide) (by decide) (by decide) (by decide) (by decide) cl_X1_34 ac_int (fun i _ => (hZ (k + 28 + 1 + i) (by omega)).1) (by decide) (by decide) dX1_init_60 (fun H hP hS hsz _ => ?_)
  have hP : fP (wz w k (k + 35) (zs (zs (zs z k 0) k 6) k 7)) (sI (sI (sI (sI (sI μ0 k 1 (0)) k 2 (0)) k 3 (0)) k 4 (0)) k 5 (0)) H := hP
  have hsz : H.size = w.2.2.1 (k + 35) := hsz
  have hZ : Z0 (k + 35) (sI (sI (sI (sI (sI μ0 k 1 (0)) k 2 (0)) k 3 (0)) k 4 (0)) k 5 (0)) (zs (zs (zs z k 0) k 6) k 7) := hZ.mono (by omega)
  refine a_p3 C hP hS (hA (by omega)) (by omega) (v := k + 28) ⟨Nat.le_refl _, by omega⟩ hk ff_X1_39 rfl rfl (fun _ => ⟨rfl, rfl⟩) rfl dX1_init_64 (fun H locs hP hS hs9 => ?_)
  rw [hsz] at hs9
  have hsz := hs9
  have hZ : Z0 (k + 35) (sI (sI (sI (sI (sI μ0 k 1 (0)) k 2 (0)) k 3 (0)) k 4 (0)) k 5 (0)) (zs (zs (zs (zs z k 0) k 6) k 7) k 8) := hZ.zs (by omega)
  refine lv_aload_n hx hb dX1_init_67 rfl (lv_at hl 0 rfl) ?_
  refine lv_iconst (v := (5)) hx hb dX1_init_68 (by decide) ?_
  refine lv_bipush (v := (6)) hx hb dX1_init_69 (by decide) ?_
  refine a_mna (N := 5) (M := 6) C hP hS hsz (by omega) (kd_X1_35 hk) (fun i hi => kr_X1_35 hk i hi) (by decide) (by decide) (by decide) (by decide) (by decide) (by decide) cl_X1_34 ac_int (fun i _ => (hZ (k + 35 + 1 + i) (by omega)).1) (by decide) (by decide) dX1_init_71 (fun H hP hS hsz _ => ?_)
  have hP : fP (wz w k (k + 41) (zs (zs (zs (zs z k 0) k 6) k 7) k 8)) (sI (sI (sI (sI (sI μ0 k 1 (0)) k 2 (0)) k 3 (0)) k 4 (0)) k 5 (0)) H := hP
  have hsz : H.size = w.2.2.1 (k + 41) := hsz
  have hZ : Z0 (k + 41) (sI (sI (sI (sI (sI μ0 k 1 (0)) k 2 (0)) k 3 (0)) k 4 (0)) k 5 (0)) (zs (zs (zs (zs z k 0) k 6) k 7) k 8) := hZ.mono (by omega)
  refine a_p3 C hP hS (hA (by omega)) (by omega) (v := k + 35) ⟨Nat.le_refl _, by omega⟩ hk ff_X1_42 rfl rfl (fun _ => ⟨rfl, rfl⟩) rfl dX1_init_75 (fun H locs hP hS hs9 => ?_)
  rw [hsz] at hs9
  have hsz := hs9
  have hZ : Z0 (k + 41) (sI (sI (sI (sI (sI μ0 k 1 (0)) k 2 (0)) k 3 (0)) k 4 (0)) k 5 (0)) (zs (zs (zs (zs (zs z k 0) k 6) k 7) k 8) k 9) := hZ.zs (by omega)
  have hP : fP (wz w k (k + 41) (zm z k (k + 41))) (mg μ0 ini k (k + 41)) H := fP_congr (by omega) hP (fin_X1 hk h0)
  exact a_ret C hr hP hS hsz dX1_init_78
theorem kd_X6_1 {k : Nat} (h : kd k = (4, 6)) : kd (k + 1) = (0, 36) := by have e := ko_6 h; subst e <;> decide +kernel
theorem kd_X6_2 {k : Nat} (h : kd k = (4, 6)) : kd (k + 2) = (3, 2) := by have e := ko_6 h; subst e <;> decide +kernel
theorem kr_X6_2 {k : Nat} (h : kd k = (4, 6)) (i : Nat) (hi : i < 2) : kd (k + 2 + 1 + i) = (0, 6) := by
  revert i
  have e := ko_6 h; subst e <;> decide +kernel
theorem kd_X6_3 {k : Nat} (h : kd k = (4, 6)) : kd (k + 3) = (0, 6) := by have e := ko_6 h; subst e <;> decide +kernel
theorem kd_X6_4 {k : Nat} (h : kd k = (4, 6)) : kd (k + 4) = (0, 6) := by have e := ko_6 h; subst e <;> decide +kernel
theorem kd_X6_5 {k : Nat} (h : kd k = (4, 6)) : kd (k + 5) = (0, 6) := by have e := ko_6 h; subst e <;> decide +kernel
theorem kb_X6 {k : Nat} (h : kd k = (4, 6)) : k + 6 ≤ 221 := by have e := ko_6 h; subst e <;> decide
def ri_X6 : Room := { frames := 1, cells := 5, slots := 56, locals := 20 }
set_option maxHeartbeats 4000000 in
set_option maxRecDepth 100000 in
theorem fin_X6 {k : Nat} (hk : kd k = (4, 6)) {z : Nat → Nat → Bool} {μ0 : fMem} (h0 : Z0 k μ0 z) : ∀ a, k ≤ a → a < k + 6 → (sI (sI μ0 k 0 (0)) k 2 (0)).1 a = (mg μ0 ini k (k + 6)).1 a ∧ (sI (sI μ0 k 0 (0)) k 2 (0)).2.1 a = (mg μ0 ini k (k + 6)).2.1 a ∧ ∀ ci, kd a = (4, ci) → ∀ j, j < fN ci → 3 ≤ ft ci j → (zs (zs (zs z k 1) k 3) k 4) a j = zm z k (k + 6) a j ∧ (4 ≤ ft ci j → (sI (sI μ0 k 0 (0)) k 2 (0)).2.2 a j = (mg μ0 ini k (k + 6)).2.2 a j) := by
  intro a h1 h2
  have e1 : (mg μ0 ini k (k + 6)).1 a = iniI a := if_pos ⟨h1, h2⟩
  have e2 : (mg μ0 ini k (k + 6)).2.1 a = iniL a := if_pos ⟨h1, h2⟩
  have e3 : (mg μ0 ini k (k + 6)).2.2 a = iniR a := if_pos ⟨h1, h2⟩
  have e4 : ∀ j, zm z k (k + 6) a j = true := fun j => if_pos ⟨h1, h2⟩
  rw [e1, e2, e3]
  rcases (show a = k ∨ a = k + 1 ∨ a = k + 2 ∨ a = k + 3 ∨ a = k + 4 ∨ a = k + 5 by omega) with rfl | rfl | rfl | rfl | rfl | rfl
  · have z1 := (h0 a (Nat.le_refl _)).1
    have z2 := (h0 a (Nat.le_refl _)).2.1
    refine ⟨?_, ?_, fun ci hci j hj h3 => ?_⟩
    · funext j
      simp only [sI, sL, sR, sRow, sRowL, fu, mg, z1]
      have e := ko_6 hk; subst e <;> simp only [iniI] <;> (repeat (first | rfl | split | omega | simp_all))
    · funext j
      simp only [sI, sL, sR, sRow, sRowL, fu, mg, z2]
      have e := ko_6 hk; subst e <;> simp only [iniL] <;> (repeat (first | rfl | split | omega | simp_all))
    · rw [hk] at hci; cases hci
      rw [e4]
      rcases (show j = 0 ∨ j = 1 ∨ j = 2 ∨ j = 3 ∨ j = 4 by simp only [fN] at hj; omega) with rfl | rfl | rfl | rfl | rfl
      all_goals first | exact absurd h3 (by decide) | skip
      all_goals refine ⟨by simp [zs, zm], fun h4 => ?_⟩
      all_goals first | exact absurd h4 (by decide) | skip
      all_goals (simp only [sI, sL, sR, sRow, sRowL, fu, mg]; have e := ko_6 hk; subst e <;> simp [iniR])
  · have z1 := (h0 (k + 1) (by omega)).1
    have z2 := (h0 (k + 1) (by omega)).2.1
    refine ⟨?_, ?_, fun ci hci j hj h3 => ?_⟩
    · funext j
      simp only [sI, sL, sR, sRow, sRowL, fu, mg, z1]
      have e := ko_6 hk; subst e <;> simp [iniI]
    · funext j
      simp only [sI, sL, sR, sRow, sRowL, fu, mg, z2]
      have e := ko_6 hk; subst e <;> simp [iniL]
    · exact (kd_ne4 (kd_X6_1 hk) (by decide) hci).elim
  · have z1 := (h0 (k + 2) (by omega)).1
    have z2 := (h0 (k + 2) (by omega)).2.1
    refine ⟨?_, ?_, fun ci hci j hj h3 => ?_⟩
    · funext j
      simp only [sI, sL, sR, sRow, sRowL, fu, mg, z1]
      have e := ko_6 hk; subst e <;> simp [iniI]
    · funext j
      simp only [sI, sL, sR, sRow, sRowL, fu, mg, z2]
      have e := ko_6 hk; subst e <;> simp [iniL]
    · exact (kd_ne4 (kd_X6_2 hk) (by decide) hci).elim
  · have z1 := (h0 (k + 3) (by omega)).1
    have z2 := (h0 (k + 3) (by omega)).2.1
    refine ⟨?_, ?_, fun ci hci j hj h3 => ?_⟩
    · funext j
      simp only [sI, sL, sR, sRow, sRowL, fu, mg, z1]
      have e := ko_6 hk; subst e <;> simp [iniI]
    · funext j
      simp only [sI, sL, sR, sRow, sRowL, fu, mg, z2]
      have e := ko_6 hk; subst e <;> simp [iniL]
    · exact (kd_ne4 (kd_X6_3 hk) (by decide) hci).elim
  · have z1 := (h0 (k + 4) (by omega)).1
    have z2 := (h0 (k + 4) (by omega)).2.1
    refine ⟨?_, ?_, fun ci hci j hj h3 => ?_⟩
    · funext j
      simp only [sI, sL, sR, sRow, sRowL, fu, mg, z1]
      have e := ko_6 hk; subst e <;> simp [iniI]
    · funext j
      simp only [sI, sL, sR, sRow, sRowL, fu, mg, z2]
      have e := ko_6 hk; subst e <;> simp [iniL]
    · exact (kd_ne4 (kd_X6_4 hk) (by decide) hci).elim
  · have z1 := (h0 (k + 5) (by omega)).1
    have z2 := (h0 (k + 5) (by omega)).2.1
    refine ⟨?_, ?_, fun ci hci j hj h3 => ?_⟩
    · funext j
      simp only [sI, sL, sR, sRow, sRowL, fu, mg, z1]
      have e := ko_6 hk; subst e <;> simp [iniI]
    · funext j
      simp only [sI, sL, sR, sRow, sRowL, fu, mg, z2]
      have e := ko_6 hk; subst e <;> simp [iniL]
    · exact (kd_ne4 (kd_X6_5 hk) (by decide) hci).elim
set_option maxHeartbeats 4000000 in
set_option maxRecDepth 100000 in
theorem k_X6 (l : Launch) (w : fW) (hAD : fAD w) (k : Nat) (hk : kd k = (4, 6)) (z : Nat → Nat → Bool) (μ0 : fMem) (h0 : Z0 k μ0 z) : Met l yX6_init (.code yX6_init cX6_init 1 none :: gw) ri_X6 (cPc w k z μ0) (cQ w k (k + 6) (zm z k (k + 6)) (mg μ0 ini k (k + 6))) 5 56 (fun q => w.2.2.1 k ≤ q) := by
  have hkb := kb_X6 hk
  refine cmet_of hAD (by decide) rfl ?_ (by decide)
  intro p e s m below meth c ls C hr hP hs0 hl hS
  obtain ⟨hx, hb, hml, hown, hts, hK, -, hlk, hT, hNs, -⟩ := id C
  have hsz := hs0
  have hZ : Z0 (k + 1) μ0 z := h0.mono (Nat.le_succ k)
  have hA : ∀ {n : Nat}, n ≤ 221 → ∀ a, k ≤ a → a < n → (fun q => w.2.2.1 k ≤ q) (w.2.2.1 a) := fun hn a h1 h2 => hAD.up (n := a) h1 (by omega) (Nat.le_refl _)
  refine lv_aload_n hx hb dX6_init_0 rfl (lv_at hl 0 rfl) ?_
  refine W.objInit hx hb hown (hts _ ol_X6_3) (hts _ oi.1) (hts _ oi.2) rfl (by rw [hml]; exact hl.1) rfl dX6_init_1 (by decide) (Nat.le_of_ble_eq_true rfl) ?_
  refine W.eq (g2 := F0 m 4 ls []) rfl ?_
  refine lv_aload_n hx hb dX6_init_4 rfl (lv_at hl 0 rfl) ?_
  refine lv_iconst (v := (0)) hx hb dX6_init_5 (by decide) ?_
  refine a_p0 C hP hS (hA (by omega)) (by omega) ⟨Nat.le_refl _, by omega⟩ hk fp_X6_9 (Or.inl ⟨rfl, rfl⟩) dX6_init_6 (fun H locs hP hS hs9 => ?_)
  rw [hsz] at hs9
  have hsz := hs9
  have hZ : Z0 (k + 1) (sI μ0 k 0 (0)) z := hZ.sI (by omega)
  refine lv_aload_n hx hb dX6_init_9 rfl (lv_at hl 0 rfl) ?_
  refine lv_bipush (v := (36)) hx hb dX6_init_10 (by decide) ?_
  refine a_newarr C hP hS hsz (by omega) (Or.inl ⟨rfl, rfl⟩) (kd_X6_1 hk) (by decide) (by decide) (by decide) ac_int (hZ (k + 1) (Nat.le_refl _)).1 (hZ (k + 1) (Nat.le_refl _)).2.1 (by decide) (by decide) dX6_init_12 (fun H hP hS hsz _ => ?_)
  have hP : fP (wz w k (k + 2) z) (sI μ0 k 0 (0)) H := hP
  have hsz : H.size = w.2.2.1 (k + 2) := hsz
  have hZ : Z0 (k + 2) (sI μ0 k 0 (0)) z := hZ.mono (by omega)
  refine a_p3 C hP hS (hA (by omega)) (by omega) (v := k + 1) ⟨Nat.le_refl _, by omega⟩ hk ff_X6_15 rfl rfl (fun _ => ⟨rfl, rfl⟩) rfl dX6_init_14 (fun H locs hP hS hs9 => ?_)
  rw [hsz] at hs9
  have hsz := hs9
  have hZ : Z0 (k + 2) (sI μ0 k 0 (0)) (zs z k 1) := hZ.zs (by omega)
  refine lv_aload_n hx hb dX6_init_17 rfl (lv_at hl 0 rfl) ?_
  refine lv_iconst (v := (0)) hx hb dX6_init_18 (by decide) ?_
  refine a_p0 C hP hS (hA (by omega)) (by omega) ⟨Nat.le_refl _, by omega⟩ hk fp_X6_19 (Or.inl ⟨rfl, rfl⟩) dX6_init_19 (fun H locs hP hS hs9 => ?_)
  rw [hsz] at hs9
  have hsz := hs9
  have hZ : Z0 (k + 2) (sI (sI μ0 k 0 (0)) k 2 (0)) (zs z k 1) := hZ.sI (by omega)
  refine lv_aload_n hx hb dX6_init_22 rfl (lv_at hl 0 rfl) ?_
  refine lv_iconst (v := (2)) hx hb dX6_init_23 (by decide) ?_
  refine lv_bipush (v := (6)) hx hb dX6_init_24 (by decide) ?_
  refine a_mna (N := 2) (M := 6) C hP hS hsz (by omega) (kd_X6_2 hk) (fun i hi => kr_X6_2 hk i hi) (by decide) (by decide) (by decide) (by decide) (by decide) (by decide) cl_X6_22 ac_int (fun i _ => (hZ (k + 2 + 1 + i) (by omega)).1) (by decide) (by decide) dX6_init_26 (fun H hP hS hsz _ => ?_)
  have hP : fP (wz w k (k + 5) (zs z k 1)) (sI (sI μ0 k 0 (0)) k 2 (0)) H := hP
  have hsz : H.size = w.2.2.1 (k + 5) := hsz
  have hZ : Z0 (k + 5) (sI (sI μ0 k 0 (0)) k 2 (0)) (zs z k 1) := hZ.mono (by omega)
  refine a_p3 C hP hS (hA (by omega)) (by omega) (v := k + 2) ⟨Nat.le_refl _, by omega⟩ hk ff_X6_24 rfl rfl (fun _ => ⟨rfl, rfl⟩) rfl dX6_init_30 (fun H locs hP hS hs9 => ?_)
  rw [hsz] at hs9
  have hsz := hs9
  have hZ : Z0 (k + 5) (sI (sI μ0 k 0 (0)) k 2 (0)) (zs (zs z k 1) k 3) := hZ.zs (by omega)
  refine lv_aload_n hx hb dX6_init_33 rfl (lv_at hl 0 rfl) ?_
  refine lv_bipush (v := (6)) hx hb dX6_init_34 (by decide) ?_
  refine a_newarr C hP hS hsz (by omega) (Or.inl ⟨rfl, rfl⟩) (kd_X6_5 hk) (by decide) (by decide) (by decide) ac_int (hZ (k + 5) (Nat.le_refl _)).1 (hZ (k + 5) (Nat.le_refl _)).2.1 (by decide) (by decide) dX6_init_36 (fun H hP hS hsz _ => ?_)
  have hP : fP (wz w k (k + 6) (zs (zs z k 1) k 3)) (sI (sI μ0 k 0 (0)) k 2 (0)) H := hP
  have hsz : H.size = w.2.2.1 (k + 6) := hsz
  have hZ : Z0 (k + 6) (sI (sI μ0 k 0 (0)) k 2 (0)) (zs (zs z k 1) k 3) := hZ.mono (by omega)
  refine a_p3 C hP hS (hA (by omega)) (by omega) (v := k + 5) ⟨Nat.le_refl _, by omega⟩ hk ff_X6_27 rfl rfl (fun _ => ⟨rfl, rfl⟩) rfl dX6_init_38 (fun H locs hP hS hs9 => ?_)
  rw [hsz] at hs9
  have hsz := hs9
  have hZ : Z0 (k + 6) (sI (sI μ0 k 0 (0)) k 2 (0)) (zs (zs (zs z k 1) k 3) k 4) := hZ.zs (by omega)
  have hP : fP (wz w k (k + 6) (zm z k (k + 6))) (mg μ0 ini k (k + 6)) H := fP_congr (by omega) hP (fin_X6 hk h0)
  exact a_ret C hr hP hS hsz dX6_init_41
theorem kd_X0_35 {k : Nat} (h : kd k = (4, 0)) : kd (k + 35) = (2, 7) := by have e := ko_0 h; subst e <;> decide +kernel
theorem kd_X0_36 {k : Nat} (h : kd k = (4, 0)) : kd (k + 36) = (0, 6) := by have e := ko_0 h; subst e <;> decide +kernel
theorem kd_X0_37 {k : Nat} (h : kd k = (4, 0)) : kd (k + 37) = (2, 48) := by have e := ko_0 h; subst e <;> decide +kernel
theorem kd_X0_38 {k : Nat} (h : kd k = (4, 0)) : kd (k + 38) = (0, 48) := by have e := ko_0 h; subst e <;> decide +kernel
theorem kd_X0_1 {k : Nat} (h : kd k = (4, 0)) : kd (k + 1) = (4, 2) := by have e := ko_0 h; subst e <;> decide +kernel
theorem kd_X0_29 {k : Nat} (h : kd k = (4, 0)) : kd (k + 29) = (4, 7) := by have e := ko_0 h; subst e <;> decide +kernel
theorem kb_X0 {k : Nat} (h : kd k = (4, 0)) : k + 39 ≤ 221 := by have e := ko_0 h; subst e <;> decide
def ri_X0 : Room := { frames := 3, cells := 38, slots := 867, locals := 60 }
set_option maxHeartbeats 4000000 in
set_option maxRecDepth 100000 in
theorem fin_X0 {k : Nat} (hk : kd k = (4, 0)) {z : Nat → Nat → Bool} {μ0 : fMem} (h0 : Z0 k μ0 z) : ∀ a, k ≤ a → a < k + 39 → (sRowL (sI (sL (sI (sR (mg (sR (mg (sI (sL (sI (sI (sI (sI (sI (sI μ0 k 0 (0)) k 1 (0)) k 2 (-1)) k 3 (0)) k 4 (-1)) k 5 (0)) k 6 (0)) k 7 (0)) ini (k + 1) (k + 29)) k 8 (k + 1)) ini (k + 29) (k + 35)) k 9 (k + 29)) k 10 (0)) k 15 (0)) k 16 (0)) (k + 37) (fun j => if j < 48 then (-1) else (sI (sL (sI (sR (mg (sR (mg (sI (sL (sI (sI (sI (sI (sI (sI μ0 k 0 (0)) k 1 (0)) k 2 (-1)) k 3 (0)) k 4 (-1)) k 5 (0)) k 6 (0)) k 7 (0)) ini (k + 1) (k + 29)) k 8 (k + 1)) ini (k + 29) (k + 35)) k 9 (k + 29)) k 10 (0)) k 15 (0)) k 16 (0)).2.1 (k + 37) j)).1 a = (mg μ0 ini k (k + 39)).1 a ∧ (sRowL (sI (sL (sI (sR (mg (sR (mg (sI (sL (sI (sI (sI (sI (sI (sI μ0 k 0 (0)) k 1 (0)) k 2 (-1)) k 3 (0)) k 4 (-1)) k 5 (0)) k 6 (0)) k 7 (0)) ini (k + 1) (k + 29)) k 8 (k + 1)) ini (k + 29) (k + 35)) k 9 (k + 29)) k 10 (0)) k 15 (0)) k 16 (0)) (k + 37) (fun j => if j < 48 then (-1) else (sI (sL (sI (sR (mg (sR (mg (sI (sL (sI (sI (sI (sI (sI (sI μ0 k 0 (0)) k 1 (0)) k 2 (-1)) k 3 (0)) k 4 (-1)) k 5 (0)) k 6 (0)) k 7 (0)) ini (k + 1) (k + 29)) k 8 (k + 1)) ini (k + 29) (k + 35)) k 9 (k + 29)) k 10 (0)) k 15 (0)) k 16 (0)).2.1 (k + 37) j)).2.1 a = (mg μ0 ini k (k + 39)).2.1 a ∧ ∀ ci, kd a = (4, ci) → ∀ j, j < fN ci → 3 ≤ ft ci j → (zs (zs (zs (zs (zs (zm (zs (zm z (k + 1) (k + 29)) k 8) (k + 29) (k + 35)) k 9) k 11) k 12) k 13) k 14) a j = zm z k (k + 39) a j ∧ (4 ≤ ft ci j → (sRowL (sI (sL (sI (sR (mg (sR (mg (sI (sL (sI (sI (sI (sI (sI (sI μ0 k 0 (0)) k 1 (0)) k 2 (-1)) k 3 (0)) k 4 (-1)) k 5 (0)) k 6 (0)) k 7 (0)) ini (k + 1) (k + 29)) k 8 (k + 1)) ini (k + 29) (k + 35)) k 9 (k + 29)) k 10 (0)) k 15 (0)) k 16 (0)) (k + 37) (fun j => if j < 48 then (-1) else (sI (sL (sI (sR (mg (sR (mg (sI (sL (sI (sI (sI (sI (sI (sI μ0 k 0 (0)) k 1 (0)) k 2 (-1)) k 3 (0)) k 4 (-1)) k 5 (0)) k 6 (0)) k 7 (0)) ini (k + 1) (k + 29)) k 8 (k + 1)) ini (k + 29) (k + 35)) k 9 (k + 29)) k 10 (0)) k 15 (0)) k 16 (0)).2.1 (k + 37) j)).2.2 a j = (mg μ0 ini k (k + 39)).2.2 a j) := by
  intro a h1 h2
  have e1 : (mg μ0 ini k (k + 39)).1 a = iniI a := if_pos ⟨h1, h2⟩
  have e2 : (mg μ0 ini k (k + 39)).2.1 a = iniL a := if_pos ⟨h1, h2⟩
  have e3 : (mg μ0 ini k (k + 39)).2.2 a = iniR a := if_pos ⟨h1, h2⟩
  have e4 : ∀ j, zm z k (k + 39) a j = true := fun j => if_pos ⟨h1, h2⟩
  rw [e1, e2, e3]
  rcases (show a = k ∨ a = k + 35 ∨ a = k + 36 ∨ a = k + 37 ∨ a = k + 38 ∨ (k + 1 ≤ a ∧ a < k + 29) ∨ (k + 29 ≤ a ∧ a < k + 35) by omega) with rfl | rfl | rfl | rfl | rfl | ⟨g1, g2⟩ | ⟨g1, g2⟩
  · have z1 := (h0 a (Nat.le_refl _)).1
    have z2 := (h0 a (Nat.le_refl _)).2.1
    refine ⟨?_, ?_, fun ci hci j hj h3 => ?_⟩
    · funext j
      simp only [sI, sL, sR, sRow, sRowL, fu, mg, z1]
      have e := ko_0 hk; subst e <;> simp only [iniI] <;> (repeat (first | rfl | split | omega | simp_all))
    · funext j
      simp only [sI, sL, sR, sRow, sRowL, fu, mg, z2]
      have e := ko_0 hk; subst e <;> simp only [iniL] <;> (repeat (first | rfl | split | omega | simp_all))
    · rw [hk] at hci; cases hci
      rw [e4]
      rcases (show j = 0 ∨ j = 1 ∨ j = 2 ∨ j = 3 ∨ j = 4 ∨ j = 5 ∨ j = 6 ∨ j = 7 ∨ j = 8 ∨ j = 9 ∨ j = 10 ∨ j = 11 ∨ j = 12 ∨ j = 13 ∨ j = 14 ∨ j = 15 ∨ j = 16 by simp only [fN] at hj; omega) with rfl | rfl | rfl | rfl | rfl | rfl | rfl | rfl | rfl | rfl | rfl | rfl | rfl | rfl | rfl | rfl | rfl
      all_goals first | exact absurd h3 (by decide) | skip
      all_goals refine ⟨by simp [zs, zm], fun h4 => ?_⟩
      all_goals first | exact absurd h4 (by decide) | skip
      all_goals (simp only [sI, sL, sR, sRow, sRowL, fu, mg]; have e := ko_0 hk; subst e <;> simp [iniR])
  · have z1 := (h0 (k + 35) (by omega)).1
    have z2 := (h0 (k + 35) (by omega)).2.1
    refine ⟨?_, ?_, fun ci hci j hj h3 => ?_⟩
    · funext j
      simp only [sI, sL, sR, sRow, sRowL, fu, mg, z1]
      have e := ko_0 hk; subst e <;> simp [iniI]
    · funext j
      simp only [sI, sL, sR, sRow, sRowL, fu, mg, z2]
      have e := ko_0 hk; subst e <;> simp [iniL]
    · exact (kd_ne4 (kd_X0_35 hk) (by decide) hci).elim
  · have z1 := (h0 (k + 36) (by omega)).1
    have z2 := (h0 (k + 36) (by omega)).2.1
    refine ⟨?_, ?_, fun ci hci j hj h3 => ?_⟩
    · funext j
      simp only [sI, sL, sR, sRow, sRowL, fu, mg, z1]
      have e := ko_0 hk; subst e <;> simp [iniI]
    · funext j
      simp only [sI, sL, sR, sRow, sRowL, fu, mg, z2]
      have e := ko_0 hk; subst e <;> simp [iniL]
    · exact (kd_ne4 (kd_X0_36 hk) (by decide) hci).elim
  · have z1 := (h0 (k + 37) (by omega)).1
    have z2 := (h0 (k + 37) (by omega)).2.1
    refine ⟨?_, ?_, fun ci hci j hj h3 => ?_⟩
    · funext j
      simp only [sI, sL, sR, sRow, sRowL, fu, mg, z1]
      have e := ko_0 hk; subst e <;> simp [iniI]
    · funext j
      simp only [sI, sL, sR, sRow, sRowL, fu, mg, z2]
      have e := ko_0 hk; subst e <;> simp [iniL]
    · exact (kd_ne4 (kd_X0_37 hk) (by decide) hci).elim
  · have z1 := (h0 (k + 38) (by omega)).1
    have z2 := (h0 (k + 38) (by omega)).2.1
    refine ⟨?_, ?_, fun ci hci j hj h3 => ?_⟩
    · funext j
      simp only [sI, sL, sR, sRow, sRowL, fu, mg, z1]
      have e := ko_0 hk; subst e <;> simp [iniI]
    · funext j
      simp only [sI, sL, sR, sRow, sRowL, fu, mg, z2]
      have e := ko_0 hk; subst e <;> simp [iniL]
    · exact (kd_ne4 (kd_X0_38 hk) (by decide) hci).elim
  · refine ⟨?_, ?_, fun ci hci j hj h3 => ?_⟩
    · funext j
      simp only [sI, sL, sR, sRow, sRowL, fu, mg]
      simp [g1, g2, ini, show ¬ a = k by omega, show ¬ a = k + 37 by omega]
    · funext j
      simp only [sI, sL, sR, sRow, sRowL, fu, mg]
      simp [g1, g2, ini, show ¬ a = k by omega, show ¬ a = k + 37 by omega]
    · rw [e4]
      refine ⟨?_, fun _ => ?_⟩
      · simp [zs, zm, g1, g2]
      · simp only [sI, sL, sR, sRow, sRowL, fu, mg]
        simp [g1, g2, ini, show ¬ a = k by omega, show ¬ a = k + 37 by omega]
  · refine ⟨?_, ?_, fun ci hci j hj h3 => ?_⟩
    · funext j
      simp only [sI, sL, sR, sRow, sRowL, fu, mg]
      simp [g1, g2, ini, show ¬ a = k by omega, show ¬ a = k + 37 by omega]
    · funext j
      simp only [sI, sL, sR, sRow, sRowL, fu, mg]
      simp [g1, g2, ini, show ¬ a = k by omega, show ¬ a = k + 37 by omega]
    · rw [e4]
      refine ⟨?_, fun _ => ?_⟩
      · simp [zs, zm, g1, g2]
      · simp only [sI, sL, sR, sRow, sRowL, fu, mg]
        simp [g1, g2, ini, show ¬ a = k by omega, show ¬ a = k + 37 by omega]
set_option maxHeartbeats 4000000 in
set_option maxRecDepth 100000 in
theorem k_X0 (l : Launch) (w : fW) (hAD : fAD w) (k : Nat) (hk : kd k = (4, 0)) (z : Nat → Nat → Bool) (μ0 : fMem) (h0 : Z0 k μ0 z) : Met l yX0_init (.code yX0_init cX0_init 1 none :: gw) ri_X0 (cPc w k z μ0) (cQ w k (k + 39) (zm z k (k + 39)) (mg μ0 ini k (k + 39))) 38 867 (fun q => w.2.2.1 k ≤ q) := by
  have hkb := kb_X0 hk
  refine cmet_of hAD (by decide) rfl ?_ (by decide)
  intro p e s m below meth c ls C hr hP hs0 hl hS
  obtain ⟨hx, hb, hml, hown, hts, hK, -, hlk, hT, hNs, -⟩ := id C
  have hsz := hs0
  have hZ : Z0 (k + 1) μ0 z := h0.mono (Nat.le_succ k)
  have hA : ∀ {n : Nat}, n ≤ 221 → ∀ a, k ≤ a → a < n → (fun q => w.2.2.1 k ≤ q) (w.2.2.1 a) := fun hn a h1 h2 => hAD.up (n := a) h1 (by omega) (Nat.le_refl _)
  refine lv_aload_n hx hb dX0_init_0 rfl (lv_at hl 0 rfl) ?_
  refine W.objInit hx hb hown (hts _ ol_X0_3) (hts _ oi.1) (hts _ oi.2) rfl (by rw [hml]; exact hl.1) rfl dX0_init_1 (by decide) (Nat.le_of_ble_eq_true rfl) ?_
  refine W.eq (g2 := F0 m 4 ls []) rfl ?_
  refine lv_aload_n hx hb dX0_init_4 rfl (lv_at hl 0 rfl) ?_
  refine lv_iconst (v := (0)) hx hb dX0_init_5 (by decide) ?_
  refine a_p0 C hP hS (hA (by omega)) (by omega) ⟨Nat.le_refl _, by omega⟩ hk fp_X0_9 (Or.inl ⟨rfl, rfl⟩) dX0_init_6 (fun H locs hP hS hs9 => ?_)
  rw [hsz] at hs9
  have hsz := hs9
  have hZ : Z0 (k + 1) (sI μ0 k 0 (0)) z := hZ.sI (by omega)
  refine lv_aload_n hx hb dX0_init_9 rfl (lv_at hl 0 rfl) ?_
  refine lv_iconst (v := (0)) hx hb dX0_init_10 (by decide) ?_
  refine a_p0 C hP hS (hA (by omega)) (by omega) ⟨Nat.le_refl _, by omega⟩ hk fp_X0_15 (Or.inl ⟨rfl, rfl⟩) dX0_init_11 (fun H locs hP hS hs9 => ?_)
  rw [hsz] at hs9
  have hsz := hs9
  have hZ : Z0 (k + 1) (sI (sI μ0 k 0 (0)) k 1 (0)) z := hZ.sI (by omega)
  refine lv_aload_n hx hb dX0_init_14 rfl (lv_at hl 0 rfl) ?_
  refine lv_iconst (v := (-1)) hx hb dX0_init_15 (by decide) ?_
  refine a_p0 C hP hS (hA (by omega)) (by omega) ⟨Nat.le_refl _, by omega⟩ hk fp_X0_18 (Or.inl ⟨rfl, rfl⟩) dX0_init_16 (fun H locs hP hS hs9 => ?_)
  rw [hsz] at hs9
  have hsz := hs9
  have hZ : Z0 (k + 1) (sI (sI (sI μ0 k 0 (0)) k 1 (0)) k 2 (-1)) z := hZ.sI (by omega)
  refine lv_aload_n hx hb dX0_init_19 rfl (lv_at hl 0 rfl) ?_
  refine lv_iconst (v := (0)) hx hb dX0_init_20 (by decide) ?_
  refine a_p0 C hP hS (hA (by omega)) (by omega) ⟨Nat.le_refl _, by omega⟩ hk fp_X0_21 (Or.inr ⟨rfl, rfl, Or.inl rfl⟩) dX0_init_21 (fun H locs hP hS hs9 => ?_)
  rw [hsz] at hs9
  have hsz := hs9
  have hZ : Z0 (k + 1) (sI (sI (sI (sI μ0 k 0 (0)) k 1 (0)) k 2 (-1)) k 3 (0)) z := hZ.sI (by omega)
  refine lv_aload_n hx hb dX0_init_24 rfl (lv_at hl 0 rfl) ?_
  refine lv_iconst (v := (-1)) hx hb dX0_init_25 (by decide) ?_
  refine a_p0 C hP hS (hA (by omega)) (by omega) ⟨Nat.le_refl _, by omega⟩ hk fp_X0_25 (Or.inl ⟨rfl, rfl⟩) dX0_init_26 (fun H locs hP hS hs9 => ?_)
  rw [hsz] at hs9
  have hsz := hs9
  have hZ : Z0 (k + 1) (sI (sI (sI (sI (sI μ0 k 0 (0)) k 1 (0)) k 2 (-1)) k 3 (0)) k 4 (-1)) z := hZ.sI (by omega)
  refine lv_aload_n hx hb dX0_init_29 rfl (lv_at hl 0 rfl) ?_
  refine lv_iconst (v := (0)) hx hb dX0_init_30 (by decide) ?_
  refine a_p0 C hP hS (hA (by omega)) (by omega) ⟨Nat.le_refl _, by omega⟩ hk fp_X0_28 (Or.inl ⟨rfl, rfl⟩) dX0_init_31 (fun H locs hP hS hs9 => ?_)
  rw [hsz] at hs9
  have hsz := hs9
  have hZ : Z0 (k + 1) (sI (sI (sI (sI (sI (sI μ0 k 0 (0)) k 1 (0)) k 2 (-1)) k 3 (0)) k 4 (-1)) k 5 (0)) z := hZ.sI (by omega)
  refine lv_aload_n hx hb dX0_init_34 rfl (lv_at hl 0 rfl) ?_
  refine lv_lconst (v := 0) hx hb dX0_init_35 (by decide) ?_
  refine a_p2 C hP hS (hA (by omega)) (by omega) ⟨Nat.le_refl _, by omega⟩ hk fp_X0_31 rfl dX0_init_36 (fun H locs hP hS hs9 => ?_)
  rw [hsz] at hs9
  have hsz := hs9
  have hZ : Z0 (k + 1) (sL (sI (sI (sI (sI (sI (sI μ0 k 0 (0)) k 1 (0)) k 2 (-1)) k 3 (0)) k 4 (-1)) k 5 (0)) k 6 (0)) z := hZ.sL (by omega)
  refine lv_aload_n hx hb dX0_init_39 rfl (lv_at hl 0 rfl) ?_
  refine lv_iconst (v := (0)) hx hb dX0_init_40 (by decide) ?_
  refine a_p0 C hP hS (hA (by omega)) (by omega) ⟨Nat.le_refl _, by omega⟩ hk fp_X0_35 (Or.inr ⟨rfl, rfl, Or.inl rfl⟩) dX0_init_41 (fun H locs hP hS hs9 => ?_)
  rw [hsz] at hs9
  have hsz := hs9
  have hZ : Z0 (k + 1) (sI (sL (sI (sI (sI (sI (sI (sI μ0 k 0 (0)) k 1 (0)) k 2 (-1)) k 3 (0)) k 4 (-1)) k 5 (0)) k 6 (0)) k 7 (0)) z := hZ.sI (by omega)
  refine lv_aload_n hx hb dX0_init_44 rfl (lv_at hl 0 rfl) ?_
  refine a_new C hP hS hsz (by omega) (kd_X0_1 hk) rfl nl_X0_38 (hZ (k + 1) (Nat.le_refl _)).1 (hZ (k + 1) (Nat.le_refl _)).2.1 (hZ (k + 1) (Nat.le_refl _)).2.2 (by decide) (by decide) dX0_init_45 (fun H hP hS hsz _ => ?_)
  have hP : fP (wz w k (k + 1 + 1) z) (sI (sL (sI (sI (sI (sI (sI (sI μ0 k 0 (0)) k 1 (0)) k 2 (-1)) k 3 (0)) k 4 (-1)) k 5 (0)) k 6 (0)) k 7 (0)) H := hP
  have hsz : H.size = w.2.2.1 (k + 1 + 1) := hsz
  refine lv_dup hx hb dX0_init_48 rfl ?_
  refine a_init (rest := [.ref (w.2.2.1 (k + 1)), .ref (w.2.2.1 k)]) C hl hP (by omega) (by omega) hS (fun q h => hAD.up (by omega) (by omega) h) (fun q h => hAD.up0 (by omega) h) hsz il_X0_40 (k_X2 l w hAD (k + 1) (kd_X0_1 hk) z (sI (sL (sI (sI (sI (sI (sI (sI μ0 k 0 (0)) k 1 (0)) k 2 (-1)) k 3 (0)) k 4 (-1)) k 5 (0)) k 6 (0)) k 7 (0)) hZ) ⟨rfl, rfl, by decide, by decide⟩ (Nat.le_of_ble_eq_true rfl) ⟨by decide, by decide⟩ dX0_init_49 (fun H locs hPn hPo hS hsz => ?_)
  have hP := fP_mg (by omega) hPo hPn
  have hP : fP (wz w k (k + 29) (zm z (k + 1) (k + 29))) (mg (sI (sL (sI (sI (sI (sI (sI (sI μ0 k 0 (0)) k 1 (0)) k 2 (-1)) k 3 (0)) k 4 (-1)) k 5 (0)) k 6 (0)) k 7 (0)) ini (k + 1) (k + 29)) H := hP
  have hsz : H.size = w.2.2.1 (k + 29) := hsz
  have hZ : Z0 (k + 29) (mg (sI (sL (sI (sI (sI (sI (sI (sI μ0 k 0 (0)) k 1 (0)) k 2 (-1)) k 3 (0)) k 4 (-1)) k 5 (0)) k 6 (0)) k 7 (0)) ini (k + 1) (k + 29)) (zm z (k + 1) (k + 29)) := (hZ.mono (by omega)).mg (Nat.le_refl _)
  refine a_p4 C hP hS (hA (by omega)) (by omega) (v := k + 1) ⟨Nat.le_refl _, by omega⟩ hk fp_X0_41 rfl dX0_init_52 (fun H locs hP hS hs9 => ?_)
  rw [hsz] at hs9
  have hsz := hs9
  have hZ : Z0 (k + 29) (sR (mg (sI (sL (sI (sI (sI (sI (sI (sI μ0 k 0 (0)) k 1 (0)) k 2 (-1)) k 3 (0)) k 4 (-1)) k 5 (0)) k 6 (0)) k 7 (0)) ini (k + 1) (k + 29)) k 8 (k + 1)) (zs (zm z (k + 1) (k + 29)) k 8) := (hZ.zs (by omega)).sR
  refine lv_aload_n hx hb dX0_init_55 rfl (lv_at hl 0 rfl) ?_
  refine a_new C hP hS hsz (by omega) (kd_X0_29 hk) rfl nl_X0_45 (hZ (k + 29) (Nat.le_refl _)).1 (hZ (k + 29) (Nat.le_refl _)).2.1 (hZ (k + 29) (Nat.le_refl _)).2.2 (by decide) (by decide) dX0_init_56 (fun H hP hS hsz _ => ?_)
  have hP : fP (wz w k (k + 29 + 1) (zs (zm z (k + 1) (k + 29)) k 8)) (sR (mg (sI (sL (sI (sI (sI (sI (sI (sI μ0 k 0 (0)) k 1 (0)) k 2 (-1)) k 3 (0)) k 4 (-1)) k 5 (0)) k 6 (0)) k 7 (0)) ini (k + 1) (k + 29)) k 8 (k + 1)) H := hP
  have hsz : H.size = w.2.2.1 (k + 29 + 1) := hsz
  refine lv_dup hx hb dX0_init_59 rfl ?_
  refine a_init (rest := [.ref (w.2.2.1 (k + 29)), .ref (w.2.2.1 k)]) C hl hP (by omega) (by omega) hS (fun q h => hAD.up (by omega) (by omega) h) (fun q h => hAD.up0 (by omega) h) hsz il_X0_47 (k_X7 l w hAD (k + 29) (kd_X0_29 hk) (zs (zm z (k + 1) (k + 29)) k 8) (sR (mg (sI (sL (sI (sI (sI (sI (sI (sI μ0 k 0 (0)) k 1 (0)) k 2 (-1)) k 3 (0)) k 4 (-1)) k 5 (0)) k 6 (0)) k 7 (0)) ini (k + 1) (k + 29)) k 8 (k + 1)) hZ) ⟨rfl, rfl, by decide, by decide⟩ (Nat.le_of_ble_eq_true rfl) ⟨by decide, by decide⟩ dX0_init_60 (fun H locs hPn hPo hS hsz => ?_)
  have hP := fP_mg (by omega) hPo hPn
  have hP : fP (wz w k (k + 35) (zm (zs (zm z (k + 1) (k + 29)) k 8) (k + 29) (k + 35))) (mg (sR (mg (sI (sL (sI (sI (sI (sI (sI (sI μ0 k 0 (0)) k 1 (0)) k 2 (-1)) k 3 (0)) k 4 (-1)) k 5 (0)) k 6 (0)) k 7 (0)) ini (k + 1) (k + 29)) k 8 (k + 1)) ini (k + 29) (k + 35)) H := hP
  have hsz : H.size = w.2.2.1 (k + 35) := hsz
  have hZ : Z0 (k + 35) (mg (sR (mg (sI (sL (sI (sI (sI (sI (sI (sI μ0 k 0 (0)) k 1 (0)) k 2 (-1)) k 3 (0)) k 4 (-1)) k 5 (0)) k 6 (0)) k 7 (0)) ini (k + 1) (k + 29)) k 8 (k + 1)) ini (k + 29) (k + 35)) (zm (zs (zm z (k + 1) (k + 29)) k 8) (k + 29) (k + 35)) := (hZ.mono (by omega)).mg (Nat.le_refl _)
  refine a_p4 C hP hS (hA (by omega)) (by omega) (v := k + 29) ⟨Nat.le_refl _, by omega⟩ hk fp_X0_48 rfl dX0_init_63 (fun H locs hP hS hs9 => ?_)
  rw [hsz] at hs9
  have hsz := hs9
  have hZ : Z0 (k + 35) (sR (mg (sR (mg (sI (sL (sI (sI (sI (sI (sI (sI μ0 k 0 (0)) k 1 (0)) k 2 (-1)) k 3 (0)) k 4 (-1)) k 5 (0)) k 6 (0)) k 7 (0)) ini (k + 1) (k + 29)) k 8 (k + 1)) ini (k + 29) (k + 35)) k 9 (k + 29)) (zs (zm (zs (zm z (k + 1) (k + 29)) k 8) (k + 29) (k + 35)) k 9) := (hZ.zs (by omega)).sR
  refine lv_aload_n hx hb dX0_init_66 rfl (lv_at hl 0 rfl) ?_
  refine lv_iconst (v := (0)) hx hb dX0_init_67 (by decide) ?_
  refine a_p0 C hP hS (hA (by omega)) (by omega) ⟨Nat.le_refl _, by omega⟩ hk fp_X0_52 (Or.inl ⟨rfl, rfl⟩) dX0_init_68 (fun H locs hP hS hs9 => ?_)
  rw [hsz] at hs9
  have hsz := hs9
  have hZ : Z0 (k + 35) (sI (sR (mg (sR (mg (sI (sL (sI (sI (sI (sI (sI (sI μ0 k 0 (0)) k 1 (0)) k 2 (-1)) k 3 (0)) k 4 (-1)) k 5 (0)) k 6 (0)) k 7 (0)) ini (k + 1) (k + 29)) k 8 (k + 1)) ini (k + 29) (k + 35)) k 9 (k + 29)) k 10 (0)) (zs (zm (zs (zm z (k + 1) (k + 29)) k 8) (k + 29) (k + 35)) k 9) := hZ.sI (by omega)
  refine lv_aload_n hx hb dX0_init_71 rfl (lv_at hl 0 rfl) ?_
  refine lv_bipush (v := (7)) hx hb dX0_init_72 (by decide) ?_
  refine a_newarr C hP hS hsz (by omega) (Or.inr (Or.inr ⟨rfl, rfl⟩)) (kd_X0_35 hk) (by decide) (by decide) (by decide) ac_long (hZ (k + 35) (Nat.le_refl _)).1 (hZ (k + 35) (Nat.le_refl _)).2.1 (by decide) (by decide) dX0_init_74 (fun H hP hS hsz _ => ?_)
  have hP : fP (wz w k (k + 36) (zs (zm (zs (zm z (k + 1) (k + 29)) k 8) (k + 29) (k + 35)) k 9)) (sI (sR (mg (sR (mg (sI (sL (sI (sI (sI (sI (sI (sI μ0 k 0 (0)) k 1 (0)) k 2 (-1)) k 3 (0)) k 4 (-1)) k 5 (0)) k 6 (0)) k 7 (0)) ini (k + 1) (k + 29)) k 8 (k + 1)) ini (k + 29) (k + 35)) k 9 (k + 29)) k 10 (0)) H := hP
  have hsz : H.size = w.2.2.1 (k + 36) := hsz
  have hZ : Z0 (k + 36) (sI (sR (mg (sR (mg (sI (sL (sI (sI (sI (sI (sI (sI μ0 k 0 (0)) k 1 (0)) k 2 (-1)) k 3 (0)) k 4 (-1)) k 5 (0)) k 6 (0)) k 7 (0)) ini (k + 1) (k + 29)) k 8 (k + 1)) ini (k + 29) (k + 35)) k 9 (k + 29)) k 10 (0)) (zs (zm (zs (zm z (k + 1) (k + 29)) k 8) (k + 29) (k + 35)) k 9) := hZ.mono (by omega)
  refine a_p3 C hP hS (hA (by omega)) (by omega) (v := k + 35) ⟨Nat.le_refl _, by omega⟩ hk ff_X0_55 rfl rfl (fun _ => ⟨rfl, rfl⟩) rfl dX0_init_76 (fun H locs hP hS hs9 => ?_)
  rw [hsz] at hs9
  have hsz := hs9
  have hZ : Z0 (k + 36) (sI (sR (mg (sR (mg (sI (sL (sI (sI (sI (sI (sI (sI μ0 k 0 (0)) k 1 (0)) k 2 (-1)) k 3 (0)) k 4 (-1)) k 5 (0)) k 6 (0)) k 7 (0)) ini (k + 1) (k + 29)) k 8 (k + 1)) ini (k + 29) (k + 35)) k 9 (k + 29)) k 10 (0)) (zs (zs (zm (zs (zm z (k + 1) (k + 29)) k 8) (k + 29) (k + 35)) k 9) k 11) := hZ.zs (by omega)
  refine lv_aload_n hx hb dX0_init_79 rfl (lv_at hl 0 rfl) ?_
  refine lv_bipush (v := (6)) hx hb dX0_init_80 (by decide) ?_
  refine a_newarr C hP hS hsz (by omega) (Or.inl ⟨rfl, rfl⟩) (kd_X0_36 hk) (by decide) (by decide) (by decide) ac_int (hZ (k + 36) (Nat.le_refl _)).1 (hZ (k + 36) (Nat.le_refl _)).2.1 (by decide) (by decide) dX0_init_82 (fun H hP hS hsz _ => ?_)
  have hP : fP (wz w k (k + 37) (zs (zs (zm (zs (zm z (k + 1) (k + 29)) k 8) (k + 29) (k + 35)) k 9) k 11)) (sI (sR (mg (sR (mg (sI (sL (sI (sI (sI (sI (sI (sI μ0 k 0 (0)) k 1 (0)) k 2 (-1)) k 3 (0)) k 4 (-1)) k 5 (0)) k 6 (0)) k 7 (0)) ini (k + 1) (k + 29)) k 8 (k + 1)) ini (k + 29) (k + 35)) k 9 (k + 29)) k 10 (0)) H := hP
  have hsz : H.size = w.2.2.1 (k + 37) := hsz
  have hZ : Z0 (k + 37) (sI (sR (mg (sR (mg (sI (sL (sI (sI (sI (sI (sI (sI μ0 k 0 (0)) k 1 (0)) k 2 (-1)) k 3 (0)) k 4 (-1)) k 5 (0)) k 6 (0)) k 7 (0)) ini (k + 1) (k + 29)) k 8 (k + 1)) ini (k + 29) (k + 35)) k 9 (k + 29)) k 10 (0)) (zs (zs (zm (zs (zm z (k + 1) (k + 29)) k 8) (k + 29) (k + 35)) k 9) k 11) := hZ.mono (by omega)
  refine a_p3 C hP hS (hA (by omega)) (by omega) (v := k + 36) ⟨Nat.le_refl _, by omega⟩ hk ff_X0_59 rfl rfl (fun _ => ⟨rfl, rfl⟩) rfl dX0_init_84 (fun H locs hP hS hs9 => ?_)
  rw [hsz] at hs9
  have hsz := hs9
  have hZ : Z0 (k + 37) (sI (sR (mg (sR (mg (sI (sL (sI (sI (sI (sI (sI (sI μ0 k 0 (0)) k 1 (0)) k 2 (-1)) k 3 (0)) k 4 (-1)) k 5 (0)) k 6 (0)) k 7 (0)) ini (k + 1) (k + 29)) k 8 (k + 1)) ini (k + 29) (k + 35)) k 9 (k + 29)) k 10 (0)) (zs (zs (zs (zm (zs (zm z (k + 1) (k + 29)) k 8) (k + 29) (k + 35)) k 9) k 11) k 12) := hZ.zs (by omega)
  refine lv_aload_n hx hb dX0_init_87 rfl (lv_at hl 0 rfl) ?_
  refine lv_bipush (v := (48)) hx hb dX0_init_88 (by decide) ?_
  refine a_newarr C hP hS hsz (by omega) (Or.inr (Or.inr ⟨rfl, rfl⟩)) (kd_X0_37 hk) (by decide) (by decide) (by decide) ac_long (hZ (k + 37) (Nat.le_refl _)).1 (hZ (k + 37) (Nat.le_refl _)).2.1 (by decide) (by decide) dX0_init_90 (fun H hP hS hsz _ => ?_)
  have hP : fP (wz w k (k + 38) (zs (zs (zs (zm (zs (zm z (k + 1) (k + 29)) k 8) (k + 29) (k + 35)) k 9) k 11) k 12)) (sI (sR (mg (sR (mg (sI (sL (sI (sI (sI (sI (sI (sI μ0 k 0 (0)) k 1 (0)) k 2 (-1)) k 3 (0)) k 4 (-1)) k 5 (0)) k 6 (0)) k 7 (0)) ini (k + 1) (k + 29)) k 8 (k + 1)) ini (k + 29) (k + 35)) k 9 (k + 29)) k 10 (0)) H := hP
  have hsz : H.size = w.2.2.1 (k + 38) := hsz
  have hZ : Z0 (k + 38) (sI (sR (mg (sR (mg (sI (sL (sI (sI (sI (sI (sI (sI μ0 k 0 (0)) k 1 (0)) k 2 (-1)) k 3 (0)) k 4 (-1)) k 5 (0)) k 6 (0)) k 7 (0)) ini (k + 1) (k + 29)) k 8 (k + 1)) ini (k + 29) (k + 35)) k 9 (k + 29)) k 10 (0)) (zs (zs (zs (zm (zs (zm z (k + 1) (k + 29)) k 8) (k + 29) (k + 35)) k 9) k 11) k 12) := hZ.mono (by omega)
  refine a_p3 C hP hS (hA (by omega)) (by omega) (v := k + 37) ⟨Nat.le_refl _, by omega⟩ hk ff_X0_63 rfl rfl (fun _ => ⟨rfl, rfl⟩) rfl dX0_init_92 (fun H locs hP hS hs9 => ?_)
  rw [hsz] at hs9
  have hsz := hs9
  have hZ : Z0 (k + 38) (sI (sR (mg (sR (mg (sI (sL (sI (sI (sI (sI (sI (sI μ0 k 0 (0)) k 1 (0)) k 2 (-1)) k 3 (0)) k 4 (-1)) k 5 (0)) k 6 (0)) k 7 (0)) ini (k + 1) (k + 29)) k 8 (k + 1)) ini (k + 29) (k + 35)) k 9 (k + 29)) k 10 (0)) (zs (zs (zs (zs (zm (zs (zm z (k + 1) (k + 29)) k 8) (k + 29) (k + 35)) k 9) k 11) k 12) k 13) := hZ.zs (by omega)
  refine lv_aload_n hx hb dX0_init_95 rfl (lv_at hl 0 rfl) ?_
  refine lv_bipush (v := (48)) hx hb dX0_init_96 (by decide) ?_
  refine a_newarr C hP hS hsz (by omega) (Or.inl ⟨rfl, rfl⟩) (kd_X0_38 hk) (by decide) (by decide) (by decide) ac_int (hZ (k + 38) (Nat.le_refl _)).1 (hZ (k + 38) (Nat.le_refl _)).2.1 (by decide) (by decide) dX0_init_98 (fun H hP hS hsz _ => ?_)
  have hP : fP (wz w k (k + 39) (zs (zs (zs (zs (zm (zs (zm z (k + 1) (k + 29)) k 8) (k + 29) (k + 35)) k 9) k 11) k 12) k 13)) (sI (sR (mg (sR (mg (sI (sL (sI (sI (sI (sI (sI (sI μ0 k 0 (0)) k 1 (0)) k 2 (-1)) k 3 (0)) k 4 (-1)) k 5 (0)) k 6 (0)) k 7 (0)) ini (k + 1) (k + 29)) k 8 (k + 1)) ini (k + 29) (k + 35)) k 9 (k + 29)) k 10 (0)) H := hP
  have hsz : H.size = w.2.2.1 (k + 39) := hsz
  have hZ : Z0 (k + 39) (sI (sR (mg (sR (mg (sI (sL (sI (sI (sI (sI (sI (sI μ0 k 0 (0)) k 1 (0)) k 2 (-1)) k 3 (0)) k 4 (-1)) k 5 (0)) k 6 (0)) k 7 (0)) ini (k + 1) (k + 29)) k 8 (k + 1)) ini (k + 29) (k + 35)) k 9 (k + 29)) k 10 (0)) (zs (zs (zs (zs (zm (zs (zm z (k + 1) (k + 29)) k 8) (k + 29) (k + 35)) k 9) k 11) k 12) k 13) := hZ.mono (by omega)
  refine a_p3 C hP hS (hA (by omega)) (by omega) (v := k + 38) ⟨Nat.le_refl _, by omega⟩ hk ff_X0_66 rfl rfl (fun _ => ⟨rfl, rfl⟩) rfl dX0_init_100 (fun H locs hP hS hs9 => ?_)
  rw [hsz] at hs9
  have hsz := hs9
  have hZ : Z0 (k + 39) (sI (sR (mg (sR (mg (sI (sL (sI (sI (sI (sI (sI (sI μ0 k 0 (0)) k 1 (0)) k 2 (-1)) k 3 (0)) k 4 (-1)) k 5 (0)) k 6 (0)) k 7 (0)) ini (k + 1) (k + 29)) k 8 (k + 1)) ini (k + 29) (k + 35)) k 9 (k + 29)) k 10 (0)) (zs (zs (zs (zs (zs (zm (zs (zm z (k + 1) (k + 29)) k 8) (k + 29) (k + 35)) k 9) k 11) k 12) k 13) k 14) := hZ.zs (by omega)
  refine lv_aload_n hx hb dX0_init_103 rfl (lv_at hl 0 rfl) ?_
  refine lv_lconst (v := 0) hx hb dX0_init_104 (by decide) ?_
  refine a_p2 C hP hS (hA (by omega)) (by omega) ⟨Nat.le_refl _, by omega⟩ hk fp_X0_69 rfl dX0_init_105 (fun H locs hP hS hs9 => ?_)
  rw [hsz] at hs9
  have hsz := hs9
  have hZ : Z0 (k + 39) (sL (sI (sR (mg (sR (mg (sI (sL (sI (sI (sI (sI (sI (sI μ0 k 0 (0)) k 1 (0)) k 2 (-1)) k 3 (0)) k 4 (-1)) k 5 (0)) k 6 (0)) k 7 (0)) ini (k + 1) (k + 29)) k 8 (k + 1)) ini (k + 29) (k + 35)) k 9 (k + 29)) k 10 (0)) k 15 (0)) (zs (zs (zs (zs (zs (zm (zs (zm z (k + 1) (k + 29)) k 8) (k + 29) (k + 35)) k 9) k 11) k 12) k 13) k 14) := hZ.sL (by omega)
  refine lv_aload_n hx hb dX0_init_108 rfl (lv_at hl 0 rfl) ?_
  refine lv_iconst (v := (0)) hx hb dX0_init_109 (by decide) ?_
  refine a_p0 C hP hS (hA (by omega)) (by omega) ⟨Nat.le_refl _, by omega⟩ hk fp_X0_72 (Or.inr ⟨rfl, rfl, Or.inl rfl⟩) dX0_init_110 (fun H locs hP hS hs9 => ?_)
  rw [hsz] at hs9
  have hsz := hs9
  have hZ : Z0 (k + 39) (sI (sL (sI (sR (mg (sR (mg (sI (sL (sI (sI (sI (sI (sI (sI μ0 k 0 (0)) k 1 (0)) k 2 (-1)) k 3 (0)) k 4 (-1)) k 5 (0)) k 6 (0)) k 7 (0)) ini (k + 1) (k + 29)) k 8 (k + 1)) ini (k + 29) (k + 35)) k 9 (k + 29)) k 10 (0)) k 15 (0)) k 16 (0)) (zs (zs (zs (zs (zs (zm (zs (zm z (k + 1) (k + 29)) k 8) (k + 29) (k + 35)) k 9) k 11) k 12) k 13) k 14) := hZ.sI (by omega)
  refine lv_aload_n hx hb dX0_init_113 rfl (lv_at hl 0 rfl) ?_
  refine r_getF (off := 37) (w := wz w k (k + 39) (zs (zs (zs (zs (zs (zm (zs (zm z (k + 1) (k + 29)) k 8) (k + 29) (k + 35)) k 9) k 11) k 12) k 13) k 14)) (C.x (by omega)) hP ⟨Nat.le_refl _, by show k < k + 39; omega⟩ hk fl_X0_63 rfl rfl (by simp [wz, zs, zm]) dX0_init_114 ?_
  refine lv_ldc2 hx hb hown (hts _ ct_X0_75) dX0_init_117 ?_
  have hfill := fillL_spec (k + 37) (-1) (sI (sL (sI (sR (mg (sR (mg (sI (sL (sI (sI (sI (sI (sI (sI μ0 k 0 (0)) k 1 (0)) k 2 (-1)) k 3 (0)) k 4 (-1)) k 5 (0)) k 6 (0)) k 7 (0)) ini (k + 1) (k + 29)) k 8 (k + 1)) ini (k + 29) (k + 35)) k 9 (k + 29)) k 10 (0)) k 15 (0)) k 16 (0)) (kd_X0_37 hk) (by decide)
  refine a_call (callS_run (w := (wz w k (k + 39) (zs (zs (zs (zs (zs (zm (zs (zm z (k + 1) (k + 29)) k 8) (k + 29) (k + 35)) k 9) k 11) k 12) k 13) k 14))) (As := [.ref (w.2.2.1 (k + 37)), .long (-1)]) (rest := []) (C.x (by omega)) hl hP (fun a h1 h2 => hS.2.1 a h1 (fun q => h2 (hAD.up0 (by omega) q))) (m_J7_fill_d0a16 l (wz w k (k + 39) (zs (zs (zs (zs (zs (zm (zs (zm z (k + 1) (k + 29)) k 8) (k + 29) (k + 35)) k 9) k 11) k 12) k 13) k 14)) (hAD.J (by omega)) (k + 37) (-1) (karr (kd_X0_37 hk)) ⟨by show k ≤ k + 37; omega, by show k + 37 < k + 39; omega⟩ (sI (sL (sI (sR (mg (sR (mg (sI (sL (sI (sI (sI (sI (sI (sI μ0 k 0 (0)) k 1 (0)) k 2 (-1)) k 3 (0)) k 4 (-1)) k 5 (0)) k 6 (0)) k 7 (0)) ini (k + 1) (k + 29)) k 8 (k + 1)) ini (k + 29) (k + 35)) k 9 (k + 29)) k 10 (0)) k 15 (0)) k 16 (0)) hfill) ms_X0_77 ⟨rfl, rfl, by decide, by decide⟩ rfl rfl (Nat.le_of_ble_eq_true rfl) ⟨by decide, by decide⟩ dX0_init_120) hS (hA (by omega)) (by rw [hsz, hs0, hAD _ (by omega), hAD (k + 1) (by omega)]; omega) (fun H locs hP hS hs9 => ?_)
  rw [hsz] at hs9
  have hsz := hs9
  have hP : fP (wz w k (k + 39) (zm z k (k + 39))) (mg μ0 ini k (k + 39)) H := fP_congr (by omega) hP (fin_X0 hk h0)
  exact a_ret C hr hP hS hsz dX0_init_123
