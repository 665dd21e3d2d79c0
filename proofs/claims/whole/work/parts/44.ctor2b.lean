set_option maxRecDepth 100000 in
theorem cd_X9_init : Cond.code yX9_init cX9_init 4 none ∈ gw := gw_mem 270 (by rfl) rfl
set_option maxRecDepth 100000 in
theorem cd_X5_init : Cond.code yX5_init cX5_init 1 none ∈ gw := gw_mem 264 (by rfl) rfl
set_option maxRecDepth 100000 in
theorem cd_X0_init : Cond.code yX0_init cX0_init 1 none ∈ gw := gw_mem 442 (by rfl) rfl
set_option maxRecDepth 100000 in
theorem cd_X4_init : Cond.code yX4_init cX4_init 1 none ∈ gw := gw_mem 515 (by rfl) rfl
set_option maxRecDepth 100000 in
theorem cd_X8_init : Cond.code yX8_init cX8_init 1 none ∈ gw := gw_mem 549 (by rfl) rfl
set_option maxRecDepth 100000 in
theorem cd_X1_init : Cond.code yX1_init cX1_init 1 none ∈ gw := gw_mem 569 (by rfl) rfl
set_option maxRecDepth 100000 in
theorem cd_X6_init : Cond.code yX6_init cX6_init 1 none ∈ gw := gw_mem 609 (by rfl) rfl
theorem ol_X9_3 : Cond.methodLink RX9 3 objectInit ∈ gw := gw_mem 271 (by decide +kernel) rfl
theorem ff_X9_21 : FF RX9 21 9 3 (.array .int) := ⟨(RX9, TX9, 11), rfl, by decide, rfl, gw_mem 327 (by decide +kernel) rfl, iu_X9, ⟨tyX9, tyX9_ok⟩, nmX9, rfl, rfl, by decide +kernel⟩
theorem ff_X9_25 : FF RX9 25 9 4 (.array .int) := ⟨(RX9, TX9, 11), rfl, by decide, rfl, gw_mem 328 (by decide +kernel) rfl, iu_X9, ⟨tyX9, tyX9_ok⟩, nmX9, rfl, rfl, by decide +kernel⟩
theorem ff_X9_28 : FF RX9 28 9 5 (.array .int) := ⟨(RX9, TX9, 11), rfl, by decide, rfl, gw_mem 329 (by decide +kernel) rfl, iu_X9, ⟨tyX9, tyX9_ok⟩, nmX9, rfl, rfl, by decide +kernel⟩
theorem ff_X9_31 : FF RX9 31 9 6 (.array .int) := ⟨(RX9, TX9, 11), rfl, by decide, rfl, gw_mem 330 (by decide +kernel) rfl, iu_X9, ⟨tyX9, tyX9_ok⟩, nmX9, rfl, rfl, by decide +kernel⟩
theorem ff_X9_37 : FF RX9 37 9 8 (.array .int) := ⟨(RX9, TX9, 11), rfl, by decide, rfl, gw_mem 332 (by decide +kernel) rfl, iu_X9, ⟨tyX9, tyX9_ok⟩, nmX9, rfl, rfl, by decide +kernel⟩
theorem ol_X5_3 : Cond.methodLink RX5 3 objectInit ∈ gw := gw_mem 265 (by decide +kernel) rfl
theorem nl_X5_18 : NL RX5 18 9 := ⟨(RX9, TX9, 11), rfl, rfl, gw_mem 266 (by decide +kernel) rfl, gw_mem 267 (by decide +kernel) rfl, gw_mem 115 (by decide +kernel) rfl, iu_X9, tyX9, tyX9_ok, by decide +kernel⟩
theorem il_X5_20 : IL RX5 20 yX9_init cX9_init 4 ∨ IN RX5 20 yX9_init cX9_init 4 := Or.inl ⟨gw_mem 268 (by decide +kernel) rfl, cd_X9_init, gw_mem 115 (by decide +kernel) rfl, gw_mem 269 (by decide +kernel) rfl, rfl, by decide, by decide, by decide +kernel⟩
theorem ff_X5_21 : FF RX5 21 5 2 (.object "DeadMonday$Tokens") := ⟨(RX5, TX5, 8), rfl, by decide, rfl, gw_mem 365 (by decide +kernel) rfl, iu_X5, ⟨tyX5, tyX5_ok⟩, nmX5, rfl, rfl, by decide +kernel⟩
theorem nl_X5_25 : NL RX5 25 2 := ⟨(RX2, TX2, 16), rfl, rfl, gw_mem 359 (by decide +kernel) rfl, gw_mem 145 (by decide +kernel) rfl, gw_mem 112 (by decide +kernel) rfl, iu_X2, tyX2, tyX2_ok, by decide +kernel⟩
theorem il_X5_27 : IL RX5 27 yX2_init cX2_init 1 ∨ IN RX5 27 yX2_init cX2_init 1 := Or.inr ⟨by decide +kernel, cd_X2_init, gw_mem 112 (by decide +kernel) rfl, gw_mem 147 (by decide +kernel) rfl, rfl, by decide, by decide, by decide +kernel⟩
theorem ff_X5_35 : FF RX5 35 5 5 (.array .int) := ⟨(RX5, TX5, 8), rfl, by decide, rfl, gw_mem 368 (by decide +kernel) rfl, iu_X5, ⟨tyX5, tyX5_ok⟩, nmX5, rfl, rfl, by decide +kernel⟩
theorem ol_X10_3 : Cond.methodLink RX10 3 objectInit ∈ gw := gw_mem 141 (by decide +kernel) rfl
theorem ff_X10_11 : FF RX10 11 10 0 (.array .int) := ⟨(RX10, TX10, 13), rfl, by decide, rfl, gw_mem 630 (by decide +kernel) rfl, iu_X10, ⟨tyX10, tyX10_ok⟩, nmX10, rfl, rfl, by decide +kernel⟩
theorem nl_X10_19 : NL RX10 19 2 := ⟨(RX2, TX2, 16), rfl, rfl, gw_mem 144 (by decide +kernel) rfl, gw_mem 145 (by decide +kernel) rfl, gw_mem 112 (by decide +kernel) rfl, iu_X2, tyX2, tyX2_ok, by decide +kernel⟩
theorem il_X10_21 : IL RX10 21 yX2_init cX2_init 1 ∨ IN RX10 21 yX2_init cX2_init 1 := Or.inr ⟨by decide +kernel, cd_X2_init, gw_mem 112 (by decide +kernel) rfl, gw_mem 147 (by decide +kernel) rfl, rfl, by decide, by decide, by decide +kernel⟩
theorem nl_X10_26 : NL RX10 26 5 := ⟨(RX5, TX5, 8), rfl, rfl, gw_mem 260 (by decide +kernel) rfl, gw_mem 261 (by decide +kernel) rfl, gw_mem 114 (by decide +kernel) rfl, iu_X5, tyX5, tyX5_ok, by decide +kernel⟩
theorem il_X10_28 : IL RX10 28 yX5_init cX5_init 1 ∨ IN RX10 28 yX5_init cX5_init 1 := Or.inr ⟨by decide +kernel, cd_X5_init, gw_mem 114 (by decide +kernel) rfl, gw_mem 263 (by decide +kernel) rfl, rfl, by decide, by decide, by decide +kernel⟩
theorem ff_X10_29 : FF RX10 29 10 3 (.object "DeadMonday$Reader") := ⟨(RX10, TX10, 13), rfl, by decide, rfl, gw_mem 633 (by decide +kernel) rfl, iu_X10, ⟨tyX10, tyX10_ok⟩, nmX10, rfl, rfl, by decide +kernel⟩
theorem nl_X10_33 : NL RX10 33 7 := ⟨(RX7, TX7, 7), rfl, rfl, gw_mem 388 (by decide +kernel) rfl, gw_mem 389 (by decide +kernel) rfl, gw_mem 120 (by decide +kernel) rfl, iu_X7, tyX7, tyX7_ok, by decide +kernel⟩
theorem il_X10_35 : IL RX10 35 yX7_init cX7_init 1 ∨ IN RX10 35 yX7_init cX7_init 1 := Or.inl ⟨gw_mem 390 (by decide +kernel) rfl, cd_X7_init, gw_mem 120 (by decide +kernel) rfl, gw_mem 391 (by decide +kernel) rfl, rfl, by decide, by decide, by decide +kernel⟩
theorem ff_X10_36 : FF RX10 36 10 4 (.object "DeadMonday$Stand") := ⟨(RX10, TX10, 13), rfl, by decide, rfl, gw_mem 634 (by decide +kernel) rfl, iu_X10, ⟨tyX10, tyX10_ok⟩, nmX10, rfl, rfl, by decide +kernel⟩
theorem ff_X10_40 : FF RX10 40 10 5 (.object "DeadMonday$Stand") := ⟨(RX10, TX10, 13), rfl, by decide, rfl, gw_mem 635 (by decide +kernel) rfl, iu_X10, ⟨tyX10, tyX10_ok⟩, nmX10, rfl, rfl, by decide +kernel⟩
theorem ff_X10_47 : FF RX10 47 10 7 (.object "DeadMonday$Stand") := ⟨(RX10, TX10, 13), rfl, by decide, rfl, gw_mem 637 (by decide +kernel) rfl, iu_X10, ⟨tyX10, tyX10_ok⟩, nmX10, rfl, rfl, by decide +kernel⟩
theorem nl_X10_50 : NL RX10 50 0 := ⟨(RX0, TX0, 17), rfl, rfl, gw_mem 438 (by decide +kernel) rfl, gw_mem 439 (by decide +kernel) rfl, gw_mem 122 (by decide +kernel) rfl, iu_X0, tyX0, tyX0_ok, by decide +kernel⟩
theorem il_X10_52 : IL RX10 52 yX0_init cX0_init 1 ∨ IN RX10 52 yX0_init cX0_init 1 := Or.inl ⟨gw_mem 440 (by decide +kernel) rfl, cd_X0_init, gw_mem 122 (by decide +kernel) rfl, gw_mem 441 (by decide +kernel) rfl, rfl, by decide, by decide, by decide +kernel⟩
theorem ff_X10_53 : FF RX10 53 10 8 (.object "DeadMonday$Course") := ⟨(RX10, TX10, 13), rfl, by decide, rfl, gw_mem 638 (by decide +kernel) rfl, iu_X10, ⟨tyX10, tyX10_ok⟩, nmX10, rfl, rfl, by decide +kernel⟩
theorem nl_X10_57 : NL RX10 57 4 := ⟨(RX4, TX4, 8), rfl, rfl, gw_mem 511 (by decide +kernel) rfl, gw_mem 512 (by decide +kernel) rfl, gw_mem 123 (by decide +kernel) rfl, iu_X4, tyX4, tyX4_ok, by decide +kernel⟩
theorem il_X10_59 : IL RX10 59 yX4_init cX4_init 1 ∨ IN RX10 59 yX4_init cX4_init 1 := Or.inr ⟨by decide +kernel, cd_X4_init, gw_mem 123 (by decide +kernel) rfl, gw_mem 514 (by decide +kernel) rfl, rfl, by decide, by decide, by decide +kernel⟩
theorem ff_X10_60 : FF RX10 60 10 9 (.object "DeadMonday$Notes") := ⟨(RX10, TX10, 13), rfl, by decide, rfl, gw_mem 639 (by decide +kernel) rfl, iu_X10, ⟨tyX10, tyX10_ok⟩, nmX10, rfl, rfl, by decide +kernel⟩
theorem nl_X10_64 : NL RX10 64 8 := ⟨(RX8, TX8, 4), rfl, rfl, gw_mem 545 (by decide +kernel) rfl, gw_mem 546 (by decide +kernel) rfl, gw_mem 124 (by decide +kernel) rfl, iu_X8, tyX8, tyX8_ok, by decide +kernel⟩
theorem il_X10_66 : IL RX10 66 yX8_init cX8_init 1 ∨ IN RX10 66 yX8_init cX8_init 1 := Or.inr ⟨by decide +kernel, cd_X8_init, gw_mem 124 (by decide +kernel) rfl, gw_mem 548 (by decide +kernel) rfl, rfl, by decide, by decide, by decide +kernel⟩
theorem ff_X10_67 : FF RX10 67 10 10 (.object "DeadMonday$Strokes") := ⟨(RX10, TX10, 13), rfl, by decide, rfl, gw_mem 640 (by decide +kernel) rfl, iu_X10, ⟨tyX10, tyX10_ok⟩, nmX10, rfl, rfl, by decide +kernel⟩
theorem nl_X10_71 : NL RX10 71 1 := ⟨(RX1, TX1, 10), rfl, rfl, gw_mem 565 (by decide +kernel) rfl, gw_mem 566 (by decide +kernel) rfl, gw_mem 125 (by decide +kernel) rfl, iu_X1, tyX1, tyX1_ok, by decide +kernel⟩
theorem il_X10_73 : IL RX10 73 yX1_init cX1_init 1 ∨ IN RX10 73 yX1_init cX1_init 1 := Or.inr ⟨by decide +kernel, cd_X1_init, gw_mem 125 (by decide +kernel) rfl, gw_mem 568 (by decide +kernel) rfl, rfl, by decide, by decide, by decide +kernel⟩
theorem ff_X10_74 : FF RX10 74 10 11 (.object "DeadMonday$Hanger") := ⟨(RX10, TX10, 13), rfl, by decide, rfl, gw_mem 641 (by decide +kernel) rfl, iu_X10, ⟨tyX10, tyX10_ok⟩, nmX10, rfl, rfl, by decide +kernel⟩
theorem nl_X10_78 : NL RX10 78 6 := ⟨(RX6, TX6, 5), rfl, rfl, gw_mem 605 (by decide +kernel) rfl, gw_mem 606 (by decide +kernel) rfl, gw_mem 126 (by decide +kernel) rfl, iu_X6, tyX6, tyX6_ok, by decide +kernel⟩
theorem il_X10_80 : IL RX10 80 yX6_init cX6_init 1 ∨ IN RX10 80 yX6_init cX6_init 1 := Or.inr ⟨by decide +kernel, cd_X6_init, gw_mem 126 (by decide +kernel) rfl, gw_mem 608 (by decide +kernel) rfl, rfl, by decide, by decide, by decide +kernel⟩
theorem ff_X10_81 : FF RX10 81 10 12 (.object "DeadMonday$Split") := ⟨(RX10, TX10, 13), rfl, by decide, rfl, gw_mem 642 (by decide +kernel) rfl, iu_X10, ⟨tyX10, tyX10_ok⟩, nmX10, rfl, rfl, by decide +kernel⟩
theorem ol_X11_1 : Cond.methodLink RX11 1 objectInit ∈ gw := gw_mem 1371 (by decide +kernel) rfl
theorem ff_X11_7 : FF RX11 7 11 1 (.array .int) := ⟨(RX11, TX11, 65), rfl, by decide, rfl, gw_mem 1381 (by decide +kernel) rfl, iu_X11, ⟨tyX11, tyX11_ok⟩, nmX11, rfl, rfl, by decide +kernel⟩
theorem ff_X11_13 : FF RX11 13 11 3 (.array .int) := ⟨(RX11, TX11, 65), rfl, by decide, rfl, gw_mem 1383 (by decide +kernel) rfl, iu_X11, ⟨tyX11, tyX11_ok⟩, nmX11, rfl, rfl, by decide +kernel⟩
theorem ff_X11_16 : FF RX11 16 11 4 (.array .int) := ⟨(RX11, TX11, 65), rfl, by decide, rfl, gw_mem 1384 (by decide +kernel) rfl, iu_X11, ⟨tyX11, tyX11_ok⟩, nmX11, rfl, rfl, by decide +kernel⟩
theorem ff_X11_19 : FF RX11 19 11 5 (.array .int) := ⟨(RX11, TX11, 65), rfl, by decide, rfl, gw_mem 1385 (by decide +kernel) rfl, iu_X11, ⟨tyX11, tyX11_ok⟩, nmX11, rfl, rfl, by decide +kernel⟩
theorem ff_X11_22 : FF RX11 22 11 6 (.array .int) := ⟨(RX11, TX11, 65), rfl, by decide, rfl, gw_mem 1386 (by decide +kernel) rfl, iu_X11, ⟨tyX11, tyX11_ok⟩, nmX11, rfl, rfl, by decide +kernel⟩
theorem ff_X11_25 : FF RX11 25 11 7 (.array .int) := ⟨(RX11, TX11, 65), rfl, by decide, rfl, gw_mem 1387 (by decide +kernel) rfl, iu_X11, ⟨tyX11, tyX11_ok⟩, nmX11, rfl, rfl, by decide +kernel⟩
theorem ff_X11_28 : FF RX11 28 11 8 (.array .int) := ⟨(RX11, TX11, 65), rfl, by decide, rfl, gw_mem 1388 (by decide +kernel) rfl, iu_X11, ⟨tyX11, tyX11_ok⟩, nmX11, rfl, rfl, by decide +kernel⟩
theorem ff_X11_31 : FF RX11 31 11 9 (.array .int) := ⟨(RX11, TX11, 65), rfl, by decide, rfl, gw_mem 1389 (by decide +kernel) rfl, iu_X11, ⟨tyX11, tyX11_ok⟩, nmX11, rfl, rfl, by decide +kernel⟩
theorem ff_X11_34 : FF RX11 34 11 10 (.array .int) := ⟨(RX11, TX11, 65), rfl, by decide, rfl, gw_mem 1390 (by decide +kernel) rfl, iu_X11, ⟨tyX11, tyX11_ok⟩, nmX11, rfl, rfl, by decide +kernel⟩
theorem ff_X11_37 : FF RX11 37 11 11 (.array .int) := ⟨(RX11, TX11, 65), rfl, by decide, rfl, gw_mem 1391 (by decide +kernel) rfl, iu_X11, ⟨tyX11, tyX11_ok⟩, nmX11, rfl, rfl, by decide +kernel⟩
theorem ff_X11_40 : FF RX11 40 11 12 (.array .int) := ⟨(RX11, TX11, 65), rfl, by decide, rfl, gw_mem 1392 (by decide +kernel) rfl, iu_X11, ⟨tyX11, tyX11_ok⟩, nmX11, rfl, rfl, by decide +kernel⟩
theorem ff_X11_43 : FF RX11 43 11 13 (.array .int) := ⟨(RX11, TX11, 65), rfl, by decide, rfl, gw_mem 1393 (by decide +kernel) rfl, iu_X11, ⟨tyX11, tyX11_ok⟩, nmX11, rfl, rfl, by decide +kernel⟩
theorem ff_X11_46 : FF RX11 46 11 14 (.array .int) := ⟨(RX11, TX11, 65), rfl, by decide, rfl, gw_mem 1394 (by decide +kernel) rfl, iu_X11, ⟨tyX11, tyX11_ok⟩, nmX11, rfl, rfl, by decide +kernel⟩
theorem ff_X11_49 : FF RX11 49 11 15 (.array .int) := ⟨(RX11, TX11, 65), rfl, by decide, rfl, gw_mem 1395 (by decide +kernel) rfl, iu_X11, ⟨tyX11, tyX11_ok⟩, nmX11, rfl, rfl, by decide +kernel⟩
theorem ff_X11_52 : FF RX11 52 11 16 (.array .int) := ⟨(RX11, TX11, 65), rfl, by decide, rfl, gw_mem 1396 (by decide +kernel) rfl, iu_X11, ⟨tyX11, tyX11_ok⟩, nmX11, rfl, rfl, by decide +kernel⟩
theorem ff_X11_55 : FF RX11 55 11 17 (.array .int) := ⟨(RX11, TX11, 65), rfl, by decide, rfl, gw_mem 1397 (by decide +kernel) rfl, iu_X11, ⟨tyX11, tyX11_ok⟩, nmX11, rfl, rfl, by decide +kernel⟩
theorem ff_X11_58 : FF RX11 58 11 18 (.array .int) := ⟨(RX11, TX11, 65), rfl, by decide, rfl, gw_mem 1398 (by decide +kernel) rfl, iu_X11, ⟨tyX11, tyX11_ok⟩, nmX11, rfl, rfl, by decide +kernel⟩
theorem ff_X11_61 : FF RX11 61 11 19 (.array .int) := ⟨(RX11, TX11, 65), rfl, by decide, rfl, gw_mem 1399 (by decide +kernel) rfl, iu_X11, ⟨tyX11, tyX11_ok⟩, nmX11, rfl, rfl, by decide +kernel⟩
theorem ff_X11_64 : FF RX11 64 11 20 (.array .int) := ⟨(RX11, TX11, 65), rfl, by decide, rfl, gw_mem 1400 (by decide +kernel) rfl, iu_X11, ⟨tyX11, tyX11_ok⟩, nmX11, rfl, rfl, by decide +kernel⟩
theorem ff_X11_71 : FF RX11 71 11 34 (.array .long) := ⟨(RX11, TX11, 65), rfl, by decide, rfl, gw_mem 1414 (by decide +kernel) rfl, iu_X11, ⟨tyX11, tyX11_ok⟩, nmX11, rfl, rfl, by decide +kernel⟩
theorem ff_X11_75 : FF RX11 75 11 35 (.array .long) := ⟨(RX11, TX11, 65), rfl, by decide, rfl, gw_mem 1415 (by decide +kernel) rfl, iu_X11, ⟨tyX11, tyX11_ok⟩, nmX11, rfl, rfl, by decide +kernel⟩
theorem ff_X11_78 : FF RX11 78 11 37 (.array .int) := ⟨(RX11, TX11, 65), rfl, by decide, rfl, gw_mem 1417 (by decide +kernel) rfl, iu_X11, ⟨tyX11, tyX11_ok⟩, nmX11, rfl, rfl, by decide +kernel⟩
theorem ff_X11_81 : FF RX11 81 11 38 (.array .int) := ⟨(RX11, TX11, 65), rfl, by decide, rfl, gw_mem 1418 (by decide +kernel) rfl, iu_X11, ⟨tyX11, tyX11_ok⟩, nmX11, rfl, rfl, by decide +kernel⟩
theorem ff_X11_84 : FF RX11 84 11 39 (.array .int) := ⟨(RX11, TX11, 65), rfl, by decide, rfl, gw_mem 1419 (by decide +kernel) rfl, iu_X11, ⟨tyX11, tyX11_ok⟩, nmX11, rfl, rfl, by decide +kernel⟩
theorem ff_X11_87 : FF RX11 87 11 40 (.array .int) := ⟨(RX11, TX11, 65), rfl, by decide, rfl, gw_mem 1420 (by decide +kernel) rfl, iu_X11, ⟨tyX11, tyX11_ok⟩, nmX11, rfl, rfl, by decide +kernel⟩
theorem ff_X11_90 : FF RX11 90 11 41 (.array .int) := ⟨(RX11, TX11, 65), rfl, by decide, rfl, gw_mem 1421 (by decide +kernel) rfl, iu_X11, ⟨tyX11, tyX11_ok⟩, nmX11, rfl, rfl, by decide +kernel⟩
theorem ff_X11_93 : FF RX11 93 11 42 (.array .int) := ⟨(RX11, TX11, 65), rfl, by decide, rfl, gw_mem 1422 (by decide +kernel) rfl, iu_X11, ⟨tyX11, tyX11_ok⟩, nmX11, rfl, rfl, by decide +kernel⟩
theorem ff_X11_96 : FF RX11 96 11 43 (.array .int) := ⟨(RX11, TX11, 65), rfl, by decide, rfl, gw_mem 1423 (by decide +kernel) rfl, iu_X11, ⟨tyX11, tyX11_ok⟩, nmX11, rfl, rfl, by decide +kernel⟩
theorem ff_X11_99 : FF RX11 99 11 44 (.array .int) := ⟨(RX11, TX11, 65), rfl, by decide, rfl, gw_mem 1424 (by decide +kernel) rfl, iu_X11, ⟨tyX11, tyX11_ok⟩, nmX11, rfl, rfl, by decide +kernel⟩
theorem ff_X11_111 : FF RX11 111 11 52 (.array .int) := ⟨(RX11, TX11, 65), rfl, by decide, rfl, gw_mem 1432 (by decide +kernel) rfl, iu_X11, ⟨tyX11, tyX11_ok⟩, nmX11, rfl, rfl, by decide +kernel⟩
theorem ff_X11_114 : FF RX11 114 11 54 (.array .int) := ⟨(RX11, TX11, 65), rfl, by decide, rfl, gw_mem 1434 (by decide +kernel) rfl, iu_X11, ⟨tyX11, tyX11_ok⟩, nmX11, rfl, rfl, by decide +kernel⟩
theorem ff_X11_117 : FF RX11 117 11 55 (.array .int) := ⟨(RX11, TX11, 65), rfl, by decide, rfl, gw_mem 1435 (by decide +kernel) rfl, iu_X11, ⟨tyX11, tyX11_ok⟩, nmX11, rfl, rfl, by decide +kernel⟩
theorem ff_X11_120 : FF RX11 120 11 56 (.array .int) := ⟨(RX11, TX11, 65), rfl, by decide, rfl, gw_mem 1436 (by decide +kernel) rfl, iu_X11, ⟨tyX11, tyX11_ok⟩, nmX11, rfl, rfl, by decide +kernel⟩
theorem ff_X11_126 : FF RX11 126 11 59 (.array .int) := ⟨(RX11, TX11, 65), rfl, by decide, rfl, gw_mem 1439 (by decide +kernel) rfl, iu_X11, ⟨tyX11, tyX11_ok⟩, nmX11, rfl, rfl, by decide +kernel⟩
theorem ff_X11_129 : FF RX11 129 11 60 (.array .int) := ⟨(RX11, TX11, 65), rfl, by decide, rfl, gw_mem 1440 (by decide +kernel) rfl, iu_X11, ⟨tyX11, tyX11_ok⟩, nmX11, rfl, rfl, by decide +kernel⟩
theorem ff_X11_132 : FF RX11 132 11 61 (.array .int) := ⟨(RX11, TX11, 65), rfl, by decide, rfl, gw_mem 1441 (by decide +kernel) rfl, iu_X11, ⟨tyX11, tyX11_ok⟩, nmX11, rfl, rfl, by decide +kernel⟩
theorem ff_X11_135 : FF RX11 135 11 62 (.array .boolean) := ⟨(RX11, TX11, 65), rfl, by decide, rfl, gw_mem 1442 (by decide +kernel) rfl, iu_X11, ⟨tyX11, tyX11_ok⟩, nmX11, rfl, rfl, by decide +kernel⟩
theorem ff_X11_139 : FF RX11 139 11 63 (.array .int) := ⟨(RX11, TX11, 65), rfl, by decide, rfl, gw_mem 1443 (by decide +kernel) rfl, iu_X11, ⟨tyX11, tyX11_ok⟩, nmX11, rfl, rfl, by decide +kernel⟩
theorem ff_X11_142 : FF RX11 142 11 64 (.array .boolean) := ⟨(RX11, TX11, 65), rfl, by decide, rfl, gw_mem 1444 (by decide +kernel) rfl, iu_X11, ⟨tyX11, tyX11_ok⟩, nmX11, rfl, rfl, by decide +kernel⟩
theorem kd_X9_1 {k : Nat} (h : kd k = (4, 9)) : kd (k + 1) = (0, 20) := by have e := ko_9 h; subst e <;> decide +kernel
theorem kd_X9_2 {k : Nat} (h : kd k = (4, 9)) : kd (k + 2) = (0, 701) := by have e := ko_9 h; subst e <;> decide +kernel
theorem kd_X9_3 {k : Nat} (h : kd k = (4, 9)) : kd (k + 3) = (0, 701) := by have e := ko_9 h; subst e <;> decide +kernel
theorem kd_X9_4 {k : Nat} (h : kd k = (4, 9)) : kd (k + 4) = (0, 701) := by have e := ko_9 h; subst e <;> decide +kernel
theorem kd_X9_5 {k : Nat} (h : kd k = (4, 9)) : kd (k + 5) = (0, 700) := by have e := ko_9 h; subst e <;> decide +kernel
theorem kb_X9 {k : Nat} (h : kd k = (4, 9)) : k + 6 ≤ 221 := by have e := ko_9 h; subst e <;> decide
def ri_X9 : Room := { frames := 4, cells := 5, slots := 2823, locals := 120 }
set_option maxHeartbeats 4000000 in
set_option maxRecDepth 100000 in
theorem fin_X9 {k : Nat} (hk : kd k = (4, 9)) {z : Nat → Nat → Bool} {μ0 : fMem} (h0 : Z0 k μ0 z) : ∀ a, k ≤ a → a < k + 6 → (sRow (sI (sI (sI (sI (sI (sI μ0 k 0 (22)) k 1 (0)) k 2 (0)) k 7 (0)) k 9 (0)) k 10 (0)) (k + 1) (fun j => if j < 20 then lwT j else (sI (sI (sI (sI (sI (sI μ0 k 0 (22)) k 1 (0)) k 2 (0)) k 7 (0)) k 9 (0)) k 10 (0)).1 (k + 1) j)).1 a = (mg μ0 ini k (k + 6)).1 a ∧ (sRow (sI (sI (sI (sI (sI (sI μ0 k 0 (22)) k 1 (0)) k 2 (0)) k 7 (0)) k 9 (0)) k 10 (0)) (k + 1) (fun j => if j < 20 then lwT j else (sI (sI (sI (sI (sI (sI μ0 k 0 (22)) k 1 (0)) k 2 (0)) k 7 (0)) k 9 (0)) k 10 (0)).1 (k + 1) j)).2.1 a = (mg μ0 ini k (k + 6)).2.1 a ∧ ∀ ci, kd a = (4, ci) → ∀ j, j < fN ci → 3 ≤ ft ci j → (zs (zs (zs (zs (zs z k 3) k 4) k 5) k 6) k 8) a j = zm z k (k + 6) a j ∧ (4 ≤ ft ci j → (sRow (sI (sI (sI (sI (sI (sI μ0 k 0 (22)) k 1 (0)) k 2 (0)) k 7 (0)) k 9 (0)) k 10 (0)) (k + 1) (fun j => if j < 20 then lwT j else (sI (sI (sI (sI (sI (sI μ0 k 0 (22)) k 1 (0)) k 2 (0)) k 7 (0)) k 9 (0)) k 10 (0)).1 (k + 1) j)).2.2 a j = (mg μ0 ini k (k + 6)).2.2 a j) := by
  intro a h1 h2
  have e1 : (mg μ0 ini k (k + 6)).1 a = iniI a := if_pos ⟨h1, h2⟩
  have e2 : (mg μ0 ini k (k + 6)).2.1 a = iniL a := if_pos ⟨h1, h2⟩
  have e3 : (mg μ0 ini k (k + 6)).2.2 a = iniR a := if_pos ⟨h1, h2⟩
  have e4 : ∀ j, zm z k (k + 6) a j = true := fun j => if_pos ⟨h1, h2⟩
  rw [e1, e2, e3]
  rcases (show a = k ∨ a = k + 1 ∨ a = k + 2 ∨ a = k + 3 ∨ a = k + 4 ∨ a = k + 5 by omega) with rfl | rfl | rfl | rfl | rfl | rfl
  · have z1 := (h0 a (Nat.le_refl _)).1
    have z2 := (h0 a (Nat.le_refl _)).2.1
    refine ⟨?_, ?_, fun ci hci j hj h3 => ?_⟩
    · funext j
      simp only [sI, sL, sR, sRow, sRowL, fu, mg, z1]
      have e := ko_9 hk; subst e <;> simp only [iniI] <;> (repeat (first | rfl | split | omega | simp_all))
    · funext j
      simp only [sI, sL, sR, sRow, sRowL, fu, mg, z2]
      have e := ko_9 hk; subst e <;> simp only [iniL] <;> (repeat (first | rfl | split | omega | simp_all))
    · rw [hk] at hci; cases hci
      rw [e4]
      rcases (show j = 0 ∨ j = 1 ∨ j = 2 ∨ j = 3 ∨ j = 4 ∨ j = 5 ∨ j = 6 ∨ j = 7 ∨ j = 8 ∨ j = 9 ∨ j = 10 by simp only [fN] at hj; omega) with rfl | rfl | rfl | rfl | rfl | rfl | rfl | rfl | rfl | rfl | rfl
      all_goals first | exact absurd h3 (by decide) | skip
      all_goals refine ⟨by simp [zs, zm], fun h4 => ?_⟩
      all_goals first | exact absurd h4 (by decide) | skip
      all_goals (simp only [sI, sL, sR, sRow, sRowL, fu, mg]; have e := ko_9 hk; subst e <;> simp [iniR])
  · have z1 := (h0 (k + 1) (by omega)).1
    have z2 := (h0 (k + 1) (by omega)).2.1
    refine ⟨?_, ?_, fun ci hci j hj h3 => ?_⟩
    · funext j
      simp only [sI, sL, sR, sRow, sRowL, fu, mg, z1]
      have e := ko_9 hk; subst e <;> simp [iniI]
    · funext j
      simp only [sI, sL, sR, sRow, sRowL, fu, mg, z2]
      have e := ko_9 hk; subst e <;> simp [iniL]
    · exact (kd_ne4 (kd_X9_1 hk) (by decide) hci).elim
  · have z1 := (h0 (k + 2) (by omega)).1
    have z2 := (h0 (k + 2) (by omega)).2.1
    refine ⟨?_, ?_, fun ci hci j hj h3 => ?_⟩
    · funext j
      simp only [sI, sL, sR, sRow, sRowL, fu, mg, z1]
      have e := ko_9 hk; subst e <;> simp [iniI]
    · funext j
      simp only [sI, sL, sR, sRow, sRowL, fu, mg, z2]
      have e := ko_9 hk; subst e <;> simp [iniL]
    · exact (kd_ne4 (kd_X9_2 hk) (by decide) hci).elim
  · have z1 := (h0 (k + 3) (by omega)).1
    have z2 := (h0 (k + 3) (by omega)).2.1
    refine ⟨?_, ?_, fun ci hci j hj h3 => ?_⟩
    · funext j
      simp only [sI, sL, sR, sRow, sRowL, fu, mg, z1]
      have e := ko_9 hk; subst e <;> simp [iniI]
    · funext j
      simp only [sI, sL, sR, sRow, sRowL, fu, mg, z2]
      have e := ko_9 hk; subst e <;> simp [iniL]
    · exact (kd_ne4 (kd_X9_3 hk) (by decide) hci).elim
  · have z1 := (h0 (k + 4) (by omega)).1
    have z2 := (h0 (k + 4) (by omega)).2.1
    refine ⟨?_, ?_, fun ci hci j hj h3 => ?_⟩
    · funext j
      simp only [sI, sL, sR, sRow, sRowL, fu, mg, z1]
      have e := ko_9 hk; subst e <;> simp [iniI]
    · funext j
      simp only [sI, sL, sR, sRow, sRowL, fu, mg, z2]
      have e := ko_9 hk; subst e <;> simp [iniL]
    · exact (kd_ne4 (kd_X9_4 hk) (by decide) hci).elim
  · have z1 := (h0 (k + 5) (by omega)).1
    have z2 := (h0 (k + 5) (by omega)).2.1
    refine ⟨?_, ?_, fun ci hci j hj h3 => ?_⟩
    · funext j
      simp only [sI, sL, sR, sRow, sRowL, fu, mg, z1]
      have e := ko_9 hk; subst e <;> simp [iniI]
    · funext j
      simp only [sI, sL, sR, sRow, sRowL, fu, mg, z2]
      have e := ko_9 hk; subst e <;> simp [iniL]
    · exact (kd_ne4 (kd_X9_5 hk) (by decide) hci).elim
set_option maxHeartbeats 4000000 in
set_option maxRecDepth 100000 in
theorem k_X9 (l : Launch) (w : fW) (hAD : fAD w) (k : Nat) (hk : kd k = (4, 9)) (z : Nat → Nat → Bool) (μ0 : fMem) (h0 : Z0 k μ0 z) : Met l yX9_init (.code yX9_init cX9_init 4 none :: gw) ri_X9 (cPc w k z μ0) (cQ w k (k + 6) (zm z k (k + 6)) (mg μ0 ini k (k + 6))) 5 2823 (fun q => w.2.2.1 k ≤ q) := by
  have hkb := kb_X9 hk
  refine cmet_of hAD (by decide) rfl ?_ (by decide)
  intro p e s m below meth c ls C hr hP hs0 hl hS
  obtain ⟨hx, hb, hml, hown, hts, hK, -, hlk, hT, hNs, -⟩ := id C
  have hsz := hs0
  have hZ : Z0 (k + 1) μ0 z := h0.mono (Nat.le_succ k)
  have hA : ∀ {n : Nat}, n ≤ k + 6 → ∀ a, k ≤ a → a < n → fA (wz w k (k + 6) z) (w.2.2.1 a) := fun hn a h1 h2 => ⟨a, ⟨h1, show a < k + 6 by omega⟩, rfl⟩
  have hS : va_S (fA (wz w k (k + 6) z)) s.heap s.heap [] := va_S.rf
  refine lv_aload_n hx hb dX9_init_0 rfl (lv_at hl 0 rfl) ?_
  refine W.objInit hx hb hown (hts _ ol_X9_3) (hts _ oi.1) (hts _ oi.2) rfl (by rw [hml]; exact hl.1) rfl dX9_init_1 (by decide) (Nat.le_of_ble_eq_true rfl) ?_
  refine W.eq (g2 := F0 m 4 ls []) rfl ?_
  refine lv_aload_n hx hb dX9_init_4 rfl (lv_at hl 0 rfl) ?_
  refine lv_bipush (v := (22)) hx hb dX9_init_5 (by decide) ?_
  refine a_p0 C hP hS (hA (by omega)) (by omega) ⟨Nat.le_refl _, by omega⟩ hk fp_X9_9 (Or.inl ⟨rfl, rfl⟩) dX9_init_7 (fun H locs hP hS hs9 => ?_)
  rw [hsz] at hs9
  have hsz := hs9
  have hZ : Z0 (k + 1) (sI μ0 k 0 (22)) z := hZ.sI (by omega)
  refine lv_aload_n hx hb dX9_init_10 rfl (lv_at hl 0 rfl) ?_
  refine lv_iconst (v := (0)) hx hb dX9_init_11 (by decide) ?_
  refine a_p0 C hP hS (hA (by omega)) (by omega) ⟨Nat.le_refl _, by omega⟩ hk fp_X9_15 (Or.inl ⟨rfl, rfl⟩) dX9_init_12 (fun H locs hP hS hs9 => ?_)
  rw [hsz] at hs9
  have hsz := hs9
  have hZ : Z0 (k + 1) (sI (sI μ0 k 0 (22)) k 1 (0)) z := hZ.sI (by omega)
  refine lv_aload_n hx hb dX9_init_15 rfl (lv_at hl 0 rfl) ?_
  refine lv_iconst (v := (0)) hx hb dX9_init_16 (by decide) ?_
  refine a_p0 C hP hS (hA (by omega)) (by omega) ⟨Nat.le_refl _, by omega⟩ hk fp_X9_18 (Or.inl ⟨rfl, rfl⟩) dX9_init_17 (fun H locs hP hS hs9 => ?_)
  rw [hsz] at hs9
  have hsz := hs9
  have hZ : Z0 (k + 1) (sI (sI (sI μ0 k 0 (22)) k 1 (0)) k 2 (0)) z := hZ.sI (by omega)
  refine lv_aload_n hx hb dX9_init_20 rfl (lv_at hl 0 rfl) ?_
  refine lv_bipush (v := (20)) hx hb dX9_init_21 (by decide) ?_
  refine a_newarr C hP hS hsz (by omega) (Or.inl ⟨rfl, rfl⟩) (kd_X9_1 hk) (by decide) (by decide) (by decide) ac_int (hZ (k + 1) (Nat.le_refl _)).1 (hZ (k + 1) (Nat.le_refl _)).2.1 (by decide) (by decide) dX9_init_23 (fun H hP hS hsz _ => ?_)
  have hP : fP (wz w k (k + 2) z) (sI (sI (sI μ0 k 0 (22)) k 1 (0)) k 2 (0)) H := hP
  have hsz : H.size = w.2.2.1 (k + 2) := hsz
  have hZ : Z0 (k + 2) (sI (sI (sI μ0 k 0 (22)) k 1 (0)) k 2 (0)) z := hZ.mono (by omega)
  refine a_p3 C hP hS (hA (by omega)) (by omega) (v := k + 1) ⟨Nat.le_refl _, by omega⟩ hk ff_X9_21 rfl rfl (fun _ => ⟨rfl, rfl⟩) rfl dX9_init_25 (fun H locs hP hS hs9 => ?_)
  rw [hsz] at hs9
  have hsz := hs9
  have hZ : Z0 (k + 2) (sI (sI (sI μ0 k 0 (22)) k 1 (0)) k 2 (0)) (zs z k 3) := hZ.zs (by omega)
  refine lv_aload_n hx hb dX9_init_28 rfl (lv_at hl 0 rfl) ?_
  refine lv_sipush (v := (701)) hx hb dX9_init_29 (by decide) ?_
  refine a_newarr C hP hS hsz (by omega) (Or.inl ⟨rfl, rfl⟩) (kd_X9_2 hk) (by decide) (by decide) (by decide) ac_int (hZ (k + 2) (Nat.le_refl _)).1 (hZ (k + 2) (Nat.le_refl _)).2.1 (by decide) (by decide) dX9_init_32 (fun H hP hS hsz _ => ?_)
  have hP : fP (wz w k (k + 3) (zs z k 3)) (sI (sI (sI μ0 k 0 (22)) k 1 (0)) k 2 (0)) H := hP
  have hsz : H.size = w.2.2.1 (k + 3) := hsz
  have hZ : Z0 (k + 3) (sI (sI (sI μ0 k 0 (22)) k 1 (0)) k 2 (0)) (zs z k 3) := hZ.mono (by omega)
  refine a_p3 C hP hS (hA (by omega)) (by omega) (v := k + 2) ⟨Nat.le_refl _, by omega⟩ hk ff_X9_25 rfl rfl (fun _ => ⟨rfl, rfl⟩) rfl dX9_init_34 (fun H locs hP hS hs9 => ?_)
  rw [hsz] at hs9
  have hsz := hs9
  have hZ : Z0 (k + 3) (sI (sI (sI μ0 k 0 (22)) k 1 (0)) k 2 (0)) (zs (zs z k 3) k 4) := hZ.zs (by omega)
  refine lv_aload_n hx hb dX9_init_37 rfl (lv_at hl 0 rfl) ?_
  refine lv_sipush (v := (701)) hx hb dX9_init_38 (by decide) ?_
  refine a_newarr C hP hS hsz (by omega) (Or.inl ⟨rfl, rfl⟩) (kd_X9_3 hk) (by decide) (by decide) (by decide) ac_int (hZ (k + 3) (Nat.le_refl _)).1 (hZ (k + 3) (Nat.le_refl _)).2.1 (by decide) (by decide) dX9_init_41 (fun H hP hS hsz _ => ?_)
  have hP : fP (wz w k (k + 4) (zs (zs z k 3) k 4)) (sI (sI (sI μ0 k 0 (22)) k 1 (0)) k 2 (0)) H := hP
  have hsz : H.size = w.2.2.1 (k + 4) := hsz
  have hZ : Z0 (k + 4) (sI (sI (sI μ0 k 0 (22)) k 1 (0)) k 2 (0)) (zs (zs z k 3) k 4) := hZ.mono (by omega)
  refine a_p3 C hP hS (hA (by omega)) (by omega) (v := k + 3) ⟨Nat.le_refl _, by omega⟩ hk ff_X9_28 rfl rfl (fun _ => ⟨rfl, rfl⟩) rfl dX9_init_43 (fun H locs hP hS hs9 => ?_)
  rw [hsz] at hs9
  have hsz := hs9
  have hZ : Z0 (k + 4) (sI (sI (sI μ0 k 0 (22)) k 1 (0)) k 2 (0)) (zs (zs (zs z k 3) k 4) k 5) := hZ.zs (by omega)
  refine lv_aload_n hx hb dX9_init_46 rfl (lv_at hl 0 rfl) ?_
  refine lv_sipush (v := (701)) hx hb dX9_init_47 (by decide) ?_
  refine a_newarr C hP hS hsz (by omega) (Or.inl ⟨rfl, rfl⟩) (kd_X9_4 hk) (by decide) (by decide) (by decide) ac_int (hZ (k + 4) (Nat.le_refl _)).1 (hZ (k + 4) (Nat.le_refl _)).2.1 (by decide) (by decide) dX9_init_50 (fun H hP hS hsz _ => ?_)
  have hP : fP (wz w k (k + 5) (zs (zs (zs z k 3) k 4) k 5)) (sI (sI (sI μ0 k 0 (22)) k 1 (0)) k 2 (0)) H := hP
  have hsz : H.size = w.2.2.1 (k + 5) := hsz
  have hZ : Z0 (k + 5) (sI (sI (sI μ0 k 0 (22)) k 1 (0)) k 2 (0)) (zs (zs (zs z k 3) k 4) k 5) := hZ.mono (by omega)
  refine a_p3 C hP hS (hA (by omega)) (by omega) (v := k + 4) ⟨Nat.le_refl _, by omega⟩ hk ff_X9_31 rfl rfl (fun _ => ⟨rfl, rfl⟩) rfl dX9_init_52 (fun H locs hP hS hs9 => ?_)
  rw [hsz] at hs9
  have hsz := hs9
  have hZ : Z0 (k + 5) (sI (sI (sI μ0 k 0 (22)) k 1 (0)) k 2 (0)) (zs (zs (zs (zs z k 3) k 4) k 5) k 6) := hZ.zs (by omega)
  refine lv_aload_n hx hb dX9_init_55 rfl (lv_at hl 0 rfl) ?_
  refine lv_iconst (v := (0)) hx hb dX9_init_56 (by decide) ?_
  refine a_p0 C hP hS (hA (by omega)) (by omega) ⟨Nat.le_refl _, by omega⟩ hk fp_X9_34 (Or.inl ⟨rfl, rfl⟩) dX9_init_57 (fun H locs hP hS hs9 => ?_)
  rw [hsz] at hs9
  have hsz := hs9
  have hZ : Z0 (k + 5) (sI (sI (sI (sI μ0 k 0 (22)) k 1 (0)) k 2 (0)) k 7 (0)) (zs (zs (zs (zs z k 3) k 4) k 5) k 6) := hZ.sI (by omega)
  refine lv_aload_n hx hb dX9_init_60 rfl (lv_at hl 0 rfl) ?_
  refine lv_sipush (v := (700)) hx hb dX9_init_61 (by decide) ?_
  refine a_newarr C hP hS hsz (by omega) (Or.inl ⟨rfl, rfl⟩) (kd_X9_5 hk) (by decide) (by decide) (by decide) ac_int (hZ (k + 5) (Nat.le_refl _)).1 (hZ (k + 5) (Nat.le_refl _)).2.1 (by decide) (by decide) dX9_init_64 (fun H hP hS hsz _ => ?_)
  have hP : fP (wz w k (k + 6) (zs (zs (zs (zs z k 3) k 4) k 5) k 6)) (sI (sI (sI (sI μ0 k 0 (22)) k 1 (0)) k 2 (0)) k 7 (0)) H := hP
  have hsz : H.size = w.2.2.1 (k + 6) := hsz
  have hZ : Z0 (k + 6) (sI (sI (sI (sI μ0 k 0 (22)) k 1 (0)) k 2 (0)) k 7 (0)) (zs (zs (zs (zs z k 3) k 4) k 5) k 6) := hZ.mono (by omega)
  refine a_p3 C hP hS (hA (by omega)) (by omega) (v := k + 5) ⟨Nat.le_refl _, by omega⟩ hk ff_X9_37 rfl rfl (fun _ => ⟨rfl, rfl⟩) rfl dX9_init_66 (fun H locs hP hS hs9 => ?_)
  rw [hsz] at hs9
  have hsz := hs9
  have hZ : Z0 (k + 6) (sI (sI (sI (sI μ0 k 0 (22)) k 1 (0)) k 2 (0)) k 7 (0)) (zs (zs (zs (zs (zs z k 3) k 4) k 5) k 6) k 8) := hZ.zs (by omega)
  refine lv_aload_n hx hb dX9_init_69 rfl (lv_at hl 0 rfl) ?_
  refine lv_iconst (v := (0)) hx hb dX9_init_70 (by decide) ?_
  refine a_p0 C hP hS (hA (by omega)) (by omega) ⟨Nat.le_refl _, by omega⟩ hk fp_X9_40 (Or.inl ⟨rfl, rfl⟩) dX9_init_71 (fun H locs hP hS hs9 => ?_)
  rw [hsz] at hs9
  have hsz := hs9
  have hZ : Z0 (k + 6) (sI (sI (sI (sI (sI μ0 k 0 (22)) k 1 (0)) k 2 (0)) k 7 (0)) k 9 (0)) (zs (zs (zs (zs (zs z k 3) k 4) k 5) k 6) k 8) := hZ.sI (by omega)
  refine lv_aload_n hx hb dX9_init_74 rfl (lv_at hl 0 rfl) ?_
  refine lv_iconst (v := (0)) hx hb dX9_init_75 (by decide) ?_
  refine a_p0 C hP hS (hA (by omega)) (by omega) ⟨Nat.le_refl _, by omega⟩ hk fp_X9_43 (Or.inl ⟨rfl, rfl⟩) dX9_init_76 (fun H locs hP hS hs9 => ?_)
  rw [hsz] at hs9
  have hsz := hs9
  have hZ : Z0 (k + 6) (sI (sI (sI (sI (sI (sI μ0 k 0 (22)) k 1 (0)) k 2 (0)) k 7 (0)) k 9 (0)) k 10 (0)) (zs (zs (zs (zs (zs z k 3) k 4) k 5) k 6) k 8) := hZ.sI (by omega)
  refine tail_X9 (w := wz w k (k + 6) (zs (zs (zs (zs (zs z k 3) k 4) k 5) k 6) k 8)) (hAD.J (by omega)) k hk ⟨Nat.le_refl _, show k < k + 6 by omega⟩ ⟨show k ≤ k + 1 by omega, show k + 1 < k + 6 by omega⟩ (by simp [wz, zs]) (C.x (by omega)) ⟨by decide, by decide⟩ ⟨by decide, by decide⟩ (sI (sI (sI (sI (sI (sI μ0 k 0 (22)) k 1 (0)) k 2 (0)) k 7 (0)) k 9 (0)) k 10 (0)) _ (tail_spec k _) (fun H locs ls hP hS hl => ?_) H locs ls hP hS hl
  refine W_sz (fun hle => ?_)
  have hsz : H.size = w.2.2.1 (k + 6) := by
    have b1 := fP_lt hP (k := k + 5) (by omega) (by omega)
    rw [hAD (k + 5) (by omega)] at b1
    rw [hs0, hAD (k + 1) (by omega)] at hle
    rw [hAD (k + 6) (by omega)]
    omega
  have hP : fP (wz w k (k + 6) (zm z k (k + 6))) (mg μ0 ini k (k + 6)) H := fP_congr (by omega) hP (fin_X9 hk h0)
  exact a_ret C hr hP (hS.up (fun q ⟨a, ha, e⟩ => by rw [e]; exact hAD.up (n := a) ha.1 (by have := ha.2; show a ≤ 221; have h9 : a < k + 6 := this; omega) (Nat.le_refl _))) hsz dX9_init_150
theorem kd_X5_35 {k : Nat} (h : kd k = (4, 5)) : kd (k + 35) = (0, 72) := by have e := ko_5 h; subst e <;> decide +kernel
theorem kd_X5_1 {k : Nat} (h : kd k = (4, 5)) : kd (k + 1) = (4, 9) := by have e := ko_5 h; subst e <;> decide +kernel
theorem kd_X5_7 {k : Nat} (h : kd k = (4, 5)) : kd (k + 7) = (4, 2) := by have e := ko_5 h; subst e <;> decide +kernel
theorem kb_X5 {k : Nat} (h : kd k = (4, 5)) : k + 36 ≤ 221 := by have e := ko_5 h; subst e <;> decide
def ri_X5 : Room := { frames := 5, cells := 35, slots := 3621, locals := 143 }
set_option maxHeartbeats 4000000 in
set_option maxRecDepth 100000 in
theorem fin_X5 {k : Nat} (hk : kd k = (4, 5)) {z : Nat → Nat → Bool} {μ0 : fMem} (h0 : Z0 k μ0 z) : ∀ a, k ≤ a → a < k + 36 → (sI (sI (sI (sR (mg (mg (sI (sI μ0 k 0 (0)) k 1 (-1)) ini (k + 1) (k + 7)) ini (k + 7) (k + 35)) k 3 (k + 7)) k 4 (0)) k 6 (0)) k 7 (0)).1 a = (mg μ0 ini k (k + 36)).1 a ∧ (sI (sI (sI (sR (mg (mg (sI (sI μ0 k 0 (0)) k 1 (-1)) ini (k + 1) (k + 7)) ini (k + 7) (k + 35)) k 3 (k + 7)) k 4 (0)) k 6 (0)) k 7 (0)).2.1 a = (mg μ0 ini k (k + 36)).2.1 a ∧ ∀ ci, kd a = (4, ci) → ∀ j, j < fN ci → 3 ≤ ft ci j → (zs (zs (zm (zs (zm z (k + 1) (k + 7)) k 2) (k + 7) (k + 35)) k 3) k 5) a j = zm z k (k + 36) a j ∧ (4 ≤ ft ci j → (sI (sI (sI (sR (mg (mg (sI (sI μ0 k 0 (0)) k 1 (-1)) ini (k + 1) (k + 7)) ini (k + 7) (k + 35)) k 3 (k + 7)) k 4 (0)) k 6 (0)) k 7 (0)).2.2 a j = (mg μ0 ini k (k + 36)).2.2 a j) := by
  intro a h1 h2
  have e1 : (mg μ0 ini k (k + 36)).1 a = iniI a := if_pos ⟨h1, h2⟩
  have e2 : (mg μ0 ini k (k + 36)).2.1 a = iniL a := if_pos ⟨h1, h2⟩
  have e3 : (mg μ0 ini k (k + 36)).2.2 a = iniR a := if_pos ⟨h1, h2⟩
  have e4 : ∀ j, zm z k (k + 36) a j = true := fun j => if_pos ⟨h1, h2⟩
  rw [e1, e2, e3]
  rcases (show a = k ∨ a = k + 35 ∨ (k + 1 ≤ a ∧ a < k + 7) ∨ (k + 7 ≤ a ∧ a < k + 35) by omega) with rfl | rfl | ⟨g1, g2⟩ | ⟨g1, g2⟩
  · have z1 := (h0 a (Nat.le_refl _)).1
    have z2 := (h0 a (Nat.le_refl _)).2.1
    refine ⟨?_, ?_, fun ci hci j hj h3 => ?_⟩
    · funext j
      simp only [sI, sL, sR, sRow, sRowL, fu, mg, z1]
      have e := ko_5 hk; subst e <;> simp only [iniI] <;> (repeat (first | rfl | split | omega | simp_all))
    · funext j
      simp only [sI, sL, sR, sRow, sRowL, fu, mg, z2]
      have e := ko_5 hk; subst e <;> simp only [iniL] <;> (repeat (first | rfl | split | omega | simp_all))
    · rw [hk] at hci; cases hci
      rw [e4]
      rcases (show j = 0 ∨ j = 1 ∨ j = 2 ∨ j = 3 ∨ j = 4 ∨ j = 5 ∨ j = 6 ∨ j = 7 by simp only [fN] at hj; omega) with rfl | rfl | rfl | rfl | rfl | rfl | rfl | rfl
      all_goals first | exact absurd h3 (by decide) | skip
      all_goals refine ⟨by simp [zs, zm], fun h4 => ?_⟩
      all_goals first | exact absurd h4 (by decide) | skip
      all_goals (simp only [sI, sL, sR, sRow, sRowL, fu, mg]; have e := ko_5 hk; subst e <;> simp [iniR])
  · have z1 := (h0 (k + 35) (by omega)).1
    have z2 := (h0 (k + 35) (by omega)).2.1
    refine ⟨?_, ?_, fun ci hci j hj h3 => ?_⟩
    · funext j
      simp only [sI, sL, sR, sRow, sRowL, fu, mg, z1]
      have e := ko_5 hk; subst e <;> simp [iniI]
    · funext j
      simp only [sI, sL, sR, sRow, sRowL, fu, mg, z2]
      have e := ko_5 hk; subst e <;> simp [iniL]
    · exact (kd_ne4 (kd_X5_35 hk) (by decide) hci).elim
  · refine ⟨?_, ?_, fun ci hci j hj h3 => ?_⟩
    · funext j
      simp only [sI, sL, sR, sRow, sRowL, fu, mg]
      simp [g1, g2, ini, show ¬ a = k by omega]
    · funext j
      simp only [sI, sL, sR, sRow, sRowL, fu, mg]
      simp [g1, g2, ini, show ¬ a = k by omega]
    · rw [e4]
      refine ⟨?_, fun _ => ?_⟩
      · simp [zs, zm, g1, g2]
      · simp only [sI, sL, sR, sRow, sRowL, fu, mg]
        simp [g1, g2, ini, show ¬ a = k by omega]
  · refine ⟨?_, ?_, fun ci hci j hj h3 => ?_⟩
    · funext j
      simp only [sI, sL, sR, sRow, sRowL, fu, mg]
      simp [g1, g2, ini, show ¬ a = k by omega]
    · funext j
      simp only [sI, sL, sR, sRow, sRowL, fu, mg]
      simp [g1, g2, ini, show ¬ a = k by omega]
    · rw [e4]
      refine ⟨?_, fun _ => ?_⟩
      · simp [zs, zm, g1, g2]
      · simp only [sI, sL, sR, sRow, sRowL, fu, mg]
        simp [g1, g2, ini, show ¬ a = k by omega]
set_option maxHeartbeats 4000000 in
set_option maxRecDepth 100000 in
theorem k_X5 (l : Launch) (w : fW) (hAD : fAD w) (k : Nat) (hk : kd k = (4, 5)) (z : Nat → Nat → Bool) (μ0 : fMem) (h0 : Z0 k μ0 z) : Met l yX5_init (.code yX5_init cX5_init 1 none :: gw) ri_X5 (cPc w k z μ0) (cQ w k (k + 36) (zm z k (k + 36)) (mg μ0 ini k (k + 36))) 35 3621 (fun q => w.2.2.1 k ≤ q) := by
  have hkb := kb_X5 hk
  refine cmet_of hAD (by decide) rfl ?_ (by decide)
  intro p e s m below meth c ls C hr hP hs0 hl hS
  obtain ⟨hx, hb, hml, hown, hts, hK, -, hlk, hT, hNs, -⟩ := id C
  have hsz := hs0
  have hZ : Z0 (k + 1) μ0 z := h0.mono (Nat.le_succ k)
  have hA : ∀ {n : Nat}, n ≤ 221 → ∀ a, k ≤ a → a < n → (fun q => w.2.2.1 k ≤ q) (w.2.2.1 a) := fun hn a h1 h2 => hAD.up (n := a) h1 (by omega) (Nat.le_refl _)
  refine lv_aload_n hx hb dX5_init_0 rfl (lv_at hl 0 rfl) ?_
  refine W.objInit hx hb hown (hts _ ol_X5_3) (hts _ oi.1) (hts _ oi.2) rfl (by rw [hml]; exact hl.1) rfl dX5_init_1 (by decide) (Nat.le_of_ble_eq_true rfl) ?_
  refine W.eq (g2 := F0 m 4 ls []) rfl ?_
  refine lv_aload_n hx hb dX5_init_4 rfl (lv_at hl 0 rfl) ?_
  refine lv_iconst (v := (0)) hx hb dX5_init_5 (by decide) ?_
  refine a_p0 C hP hS (hA (by omega)) (by omega) ⟨Nat.le_refl _, by omega⟩ hk fp_X5_9 (Or.inl ⟨rfl, rfl⟩) dX5_init_6 (fun H locs hP hS hs9 => ?_)
  rw [hsz] at hs9
  have hsz := hs9
  have hZ : Z0 (k + 1) (sI μ0 k 0 (0)) z := hZ.sI (by omega)
  refine lv_aload_n hx hb dX5_init_9 rfl (lv_at hl 0 rfl) ?_
  refine lv_iconst (v := (-1)) hx hb dX5_init_10 (by decide) ?_
  refine a_p0 C hP hS (hA (by omega)) (by omega) ⟨Nat.le_refl _, by omega⟩ hk fp_X5_15 (Or.inl ⟨rfl, rfl⟩) dX5_init_11 (fun H locs hP hS hs9 => ?_)
  rw [hsz] at hs9
  have hsz := hs9
  have hZ : Z0 (k + 1) (sI (sI μ0 k 0 (0)) k 1 (-1)) z := hZ.sI (by omega)
  refine lv_aload_n hx hb dX5_init_14 rfl (lv_at hl 0 rfl) ?_
  refine a_new C hP hS hsz (by omega) (kd_X5_1 hk) rfl nl_X5_18 (hZ (k + 1) (Nat.le_refl _)).1 (hZ (k + 1) (Nat.le_refl _)).2.1 (hZ (k + 1) (Nat.le_refl _)).2.2 (by decide) (by decide) dX5_init_15 (fun H hP hS hsz _ => ?_)
  have hP : fP (wz w k (k + 1 + 1) z) (sI (sI μ0 k 0 (0)) k 1 (-1)) H := hP
  have hsz : H.size = w.2.2.1 (k + 1 + 1) := hsz
  refine lv_dup hx hb dX5_init_18 rfl ?_
  refine a_init (rest := [.ref (w.2.2.1 (k + 1)), .ref (w.2.2.1 k)]) C hl hP (by omega) (by omega) hS (fun q h => hAD.up (by omega) (by omega) h) (fun q h => hAD.up0 (by omega) h) hsz il_X5_20 (k_X9 l w hAD (k + 1) (kd_X5_1 hk) z (sI (sI μ0 k 0 (0)) k 1 (-1)) hZ) ⟨rfl, rfl, by decide, by decide⟩ (Nat.le_of_ble_eq_true rfl) ⟨by decide, by decide⟩ dX5_init_19 (fun H locs hPn hPo hS hsz => ?_)
  have hP := fP_mg (by omega) hPo hPn
  have hP : fP (wz w k (k + 7) (zm z (k + 1) (k + 7))) (mg (sI (sI μ0 k 0 (0)) k 1 (-1)) ini (k + 1) (k + 7)) H := hP
  have hsz : H.size = w.2.2.1 (k + 7) := hsz
  have hZ : Z0 (k + 7) (mg (sI (sI μ0 k 0 (0)) k 1 (-1)) ini (k + 1) (k + 7)) (zm z (k + 1) (k + 7)) := (hZ.mono (by omega)).mg (Nat.le_refl _)
  refine a_p3 C hP hS (hA (by omega)) (by omega) (v := k + 1) ⟨Nat.le_refl _, by omega⟩ hk ff_X5_21 rfl rfl (fun _ => ⟨rfl, rfl⟩) rfl dX5_init_22 (fun H locs hP hS hs9 => ?_)
  rw [hsz] at hs9
  have hsz := hs9
  have hZ : Z0 (k + 7) (mg (sI (sI μ0 k 0 (0)) k 1 (-1)) ini (k + 1) (k + 7)) (zs (zm z (k + 1) (k + 7)) k 2) := hZ.zs (by omega)
  refine lv_aload_n hx hb dX5_init_25 rfl (lv_at hl 0 rfl) ?_
  refine a_new C hP hS hsz (by omega) (kd_X5_7 hk) rfl nl_X5_25 (hZ (k + 7) (Nat.le_refl _)).1 (hZ (k + 7) (Nat.le_refl _)).2.1 (hZ (k + 7) (Nat.le_refl _)).2.2 (by decide) (by decide) dX5_init_26 (fun H hP hS hsz _ => ?_)
  have hP : fP (wz w k (k + 7 + 1) (zs (zm z (k + 1) (k + 7)) k 2)) (mg (sI (sI μ0 k 0 (0)) k 1 (-1)) ini (k + 1) (k + 7)) H := hP
  have hsz : H.size = w.2.2.1 (k + 7 + 1) := hsz
  refine lv_dup hx hb dX5_init_29 rfl ?_
  refine a_init (rest := [.ref (w.2.2.1 (k + 7)), .ref (w.2.2.1 k)]) C hl hP (by omega) (by omega) hS (fun q h => hAD.up (by omega) (by omega) h) (fun q h => hAD.up0 (by omega) h) hsz il_X5_27 (k_X2 l w hAD (k + 7) (kd_X5_7 hk) (zs (zm z (k + 1) (k + 7)) k 2) (mg (sI (sI μ0 k 0 (0)) k 1 (-1)) ini (k + 1) (k + 7)) hZ) ⟨rfl, rfl, by decide, by decide⟩ (Nat.le_of_ble_eq_true rfl) ⟨by decide, by decide⟩ dX5_init_30 (fun H locs hPn hPo hS hsz => ?_)
  have hP := fP_mg (by omega) hPo hPn
  have hP : fP (wz w k (k + 35) (zm (zs (zm z (k + 1) (k + 7)) k 2) (k + 7) (k + 35))) (mg (mg (sI (sI μ0 k 0 (0)) k 1 (-1)) ini (k + 1) (k + 7)) ini (k + 7) (k + 35)) H := hP
  have hsz : H.size = w.2.2.1 (k + 35) := hsz
  have hZ : Z0 (k + 35) (mg (mg (sI (sI μ0 k 0 (0)) k 1 (-1)) ini (k + 1) (k + 7)) ini (k + 7) (k + 35)) (zm (zs (zm z (k + 1) (k + 7)) k 2) (k + 7) (k + 35)) := (hZ.mono (by omega)).mg (Nat.le_refl _)
  refine a_p4 C hP hS (hA (by omega)) (by omega) (v := k + 7) ⟨Nat.le_refl _, by omega⟩ hk fp_X5_28 rfl dX5_init_33 (fun H locs hP hS hs9 => ?_)
  rw [hsz] at hs9
  have hsz := hs9
  have hZ : Z0 (k + 35) (sR (mg (mg (sI (sI μ0 k 0 (0)) k 1 (-1)) ini (k + 1) (k + 7)) ini (k + 7) (k + 35)) k 3 (k + 7)) (zs (zm (zs (zm z (k + 1) (k + 7)) k 2) (k + 7) (k + 35)) k 3) := (hZ.zs (by omega)).sR
  refine lv_aload_n hx hb dX5_init_36 rfl (lv_at hl 0 rfl) ?_
  refine lv_iconst (v := (0)) hx hb dX5_init_37 (by decide) ?_
  refine a_p0 C hP hS (hA (by omega)) (by omega) ⟨Nat.le_refl _, by omega⟩ hk fp_X5_32 (Or.inl ⟨rfl, rfl⟩) dX5_init_38 (fun H locs hP hS hs9 => ?_)
  rw [hsz] at hs9
  have hsz := hs9
  have hZ : Z0 (k + 35) (sI (sR (mg (mg (sI (sI μ0 k 0 (0)) k 1 (-1)) ini (k + 1) (k + 7)) ini (k + 7) (k + 35)) k 3 (k + 7)) k 4 (0)) (zs (zm (zs (zm z (k + 1) (k + 7)) k 2) (k + 7) (k + 35)) k 3) := hZ.sI (by omega)
  refine lv_aload_n hx hb dX5_init_41 rfl (lv_at hl 0 rfl) ?_
  refine lv_bipush (v := (72)) hx hb dX5_init_42 (by decide) ?_
  refine a_newarr C hP hS hsz (by omega) (Or.inl ⟨rfl, rfl⟩) (kd_X5_35 hk) (by decide) (by decide) (by decide) ac_int (hZ (k + 35) (Nat.le_refl _)).1 (hZ (k + 35) (Nat.le_refl _)).2.1 (by decide) (by decide) dX5_init_44 (fun H hP hS hsz _ => ?_)
  have hP : fP (wz w k (k + 36) (zs (zm (zs (zm z (k + 1) (k + 7)) k 2) (k + 7) (k + 35)) k 3)) (sI (sR (mg (mg (sI (sI μ0 k 0 (0)) k 1 (-1)) ini (k + 1) (k + 7)) ini (k + 7) (k + 35)) k 3 (k + 7)) k 4 (0)) H := hP
  have hsz : H.size = w.2.2.1 (k + 36) := hsz
  have hZ : Z0 (k + 36) (sI (sR (mg (mg (sI (sI μ0 k 0 (0)) k 1 (-1)) ini (k + 1) (k + 7)) ini (k + 7) (k + 35)) k 3 (k + 7)) k 4 (0)) (zs (zm (zs (zm z (k + 1) (k + 7)) k 2) (k + 7) (k + 35)) k 3) := hZ.mono (by omega)
  refine a_p3 C hP hS (hA (by omega)) (by omega) (v := k + 35) ⟨Nat.le_refl _, by omega⟩ hk ff_X5_35 rfl rfl (fun _ => ⟨rfl, rfl⟩) rfl dX5_init_46 (fun H locs hP hS hs9 => ?_)
  rw [hsz] at hs9
  have hsz := hs9
  have hZ : Z0 (k + 36) (sI (sR (mg (mg (sI (sI μ0 k 0 (0)) k 1 (-1)) ini (k + 1) (k + 7)) ini (k + 7) (k + 35)) k 3 (k + 7)) k 4 (0)) (zs (zs (zm (zs (zm z (k + 1) (k + 7)) k 2) (k + 7) (k + 35)) k 3) k 5) := hZ.zs (by omega)
  refine lv_aload_n hx hb dX5_init_49 rfl (lv_at hl 0 rfl) ?_
  refine lv_iconst (v := (0)) hx hb dX5_init_50 (by decide) ?_
  refine a_p0 C hP hS (hA (by omega)) (by omega) ⟨Nat.le_refl _, by omega⟩ hk fp_X5_39 (Or.inl ⟨rfl, rfl⟩) dX5_init_51 (fun H locs hP hS hs9 => ?_)
  rw [hsz] at hs9
  have hsz := hs9
  have hZ : Z0 (k + 36) (sI (sI (sR (mg (mg (sI (sI μ0 k 0 (0)) k 1 (-1)) ini (k + 1) (k + 7)) ini (k + 7) (k + 35)) k 3 (k + 7)) k 4 (0)) k 6 (0)) (zs (zs (zm (zs (zm z (k + 1) (k + 7)) k 2) (k + 7) (k + 35)) k 3) k 5) := hZ.sI (by omega)
  refine lv_aload_n hx hb dX5_init_54 rfl (lv_at hl 0 rfl) ?_
  refine lv_iconst (v := (0)) hx hb dX5_init_55 (by decide) ?_
  refine a_p0 C hP hS (hA (by omega)) (by omega) ⟨Nat.le_refl _, by omega⟩ hk fp_X5_42 (Or.inl ⟨rfl, rfl⟩) dX5_init_56 (fun H locs hP hS hs9 => ?_)
  rw [hsz] at hs9
  have hsz := hs9
  have hZ : Z0 (k + 36) (sI (sI (sI (sR (mg (mg (sI (sI μ0 k 0 (0)) k 1 (-1)) ini (k + 1) (k + 7)) ini (k + 7) (k + 35)) k 3 (k + 7)) k 4 (0)) k 6 (0)) k 7 (0)) (zs (zs (zm (zs (zm z (k + 1) (k + 7)) k 2) (k + 7) (k + 35)) k 3) k 5) := hZ.sI (by omega)
  have hP : fP (wz w k (k + 36) (zm z k (k + 36))) (mg μ0 ini k (k + 36)) H := fP_congr (by omega) hP (fin_X5 hk h0)
  exact a_ret C hr hP hS hsz dX5_init_59
theorem kd_X10_1 {k : Nat} (h : kd k = (4, 10)) : kd (k + 1) = (0, 700) := by have e := ko_10 h; subst e <;> decide +kernel
theorem kd_X10_2 {k : Nat} (h : kd k = (4, 10)) : kd (k + 2) = (4, 2) := by have e := ko_10 h; subst e <;> decide +kernel
theorem kd_X10_30 {k : Nat} (h : kd k = (4, 10)) : kd (k + 30) = (4, 5) := by have e := ko_10 h; subst e <;> decide +kernel
theorem kd_X10_66 {k : Nat} (h : kd k = (4, 10)) : kd (k + 66) = (4, 7) := by have e := ko_10 h; subst e <;> decide +kernel
theorem kd_X10_72 {k : Nat} (h : kd k = (4, 10)) : kd (k + 72) = (4, 7) := by have e := ko_10 h; subst e <;> decide +kernel
theorem kd_X10_78 {k : Nat} (h : kd k = (4, 10)) : kd (k + 78) = (4, 7) := by have e := ko_10 h; subst e <;> decide +kernel
theorem kd_X10_84 {k : Nat} (h : kd k = (4, 10)) : kd (k + 84) = (4, 0) := by have e := ko_10 h; subst e <;> decide +kernel
theorem kd_X10_123 {k : Nat} (h : kd k = (4, 10)) : kd (k + 123) = (4, 4) := by have e := ko_10 h; subst e <;> decide +kernel
theorem kd_X10_130 {k : Nat} (h : kd k = (4, 10)) : kd (k + 130) = (4, 8) := by have e := ko_10 h; subst e <;> decide +kernel
theorem kd_X10_134 {k : Nat} (h : kd k = (4, 10)) : kd (k + 134) = (4, 1) := by have e := ko_10 h; subst e <;> decide +kernel
theorem kd_X10_175 {k : Nat} (h : kd k = (4, 10)) : kd (k + 175) = (4, 6) := by have e := ko_10 h; subst e <;> decide +kernel
theorem kb_X10 {k : Nat} (h : kd k = (4, 10)) : k + 181 ≤ 221 := by have e := ko_10 h; subst e <;> decide
def ri_X10 : Room := { frames := 6, cells := 180, slots := 6597, locals := 163 }
set_option maxHeartbeats 4000000 in
set_option maxRecDepth 100000 in
theorem fin_X10 {k : Nat} (hk : kd k = (4, 10)) {z : Nat → Nat → Bool} {μ0 : fMem} (h0 : Z0 k μ0 z) : ∀ a, k ≤ a → a < k + 181 → (mg (mg (mg (mg (mg (mg (sI (mg (mg (mg (sR (mg (sI μ0 k 1 (0)) ini (k + 2) (k + 30)) k 2 (k + 2)) ini (k + 30) (k + 66)) ini (k + 66) (k + 72)) ini (k + 72) (k + 78)) k 6 (0)) ini (k + 78) (k + 84)) ini (k + 84) (k + 123)) ini (k + 123) (k + 130)) ini (k + 130) (k + 134)) ini (k + 134) (k + 175)) ini (k + 175) (k + 181)).1 a = (mg μ0 ini k (k + 181)).1 a ∧ (mg (mg (mg (mg (mg (mg (sI (mg (mg (mg (sR (mg (sI μ0 k 1 (0)) ini (k + 2) (k + 30)) k 2 (k + 2)) ini (k + 30) (k + 66)) ini (k + 66) (k + 72)) ini (k + 72) (k + 78)) k 6 (0)) ini (k + 78) (k + 84)) ini (k + 84) (k + 123)) ini (k + 123) (k + 130)) ini (k + 130) (k + 134)) ini (k + 134) (k + 175)) ini (k + 175) (k + 181)).2.1 a = (mg μ0 ini k (k + 181)).2.1 a ∧ ∀ ci, kd a = (4, ci) → ∀ j, j < fN ci → 3 ≤ ft ci j → (zs (zm (zs (zm (zs (zm (zs (zm (zs (zm (zs (zm (zs (zm (zs (zm (zs (zm (zs (zm (zs z k 0) (k + 2) (k + 30)) k 2) (k + 30) (k + 66)) k 3) (k + 66) (k + 72)) k 4) (k + 72) (k + 78)) k 5) (k + 78) (k + 84)) k 7) (k + 84) (k + 123)) k 8) (k + 123) (k + 130)) k 9) (k + 130) (k + 134)) k 10) (k + 134) (k + 175)) k 11) (k + 175) (k + 181)) k 12) a j = zm z k (k + 181) a j ∧ (4 ≤ ft ci j → (mg (mg (mg (mg (mg (mg (sI (mg (mg (mg (sR (mg (sI μ0 k 1 (0)) ini (k + 2) (k + 30)) k 2 (k + 2)) ini (k + 30) (k + 66)) ini (k + 66) (k + 72)) ini (k + 72) (k + 78)) k 6 (0)) ini (k + 78) (k + 84)) ini (k + 84) (k + 123)) ini (k + 123) (k + 130)) ini (k + 130) (k + 134)) ini (k + 134) (k + 175)) ini (k + 175) (k + 181)).2.2 a j = (mg μ0 ini k (k + 181)).2.2 a j) := by
  intro a h1 h2
  have e1 : (mg μ0 ini k (k + 181)).1 a = iniI a := if_pos ⟨h1, h2⟩
  have e2 : (mg μ0 ini k (k + 181)).2.1 a = iniL a := if_pos ⟨h1, h2⟩
  have e3 : (mg μ0 ini k (k + 181)).2.2 a = iniR a := if_pos ⟨h1, h2⟩
  have e4 : ∀ j, zm z k (k + 181) a j = true := fun j => if_pos ⟨h1, h2⟩
  rw [e1, e2, e3]
  rcases (show a = k ∨ a = k + 1 ∨ (k + 2 ≤ a ∧ a < k + 30) ∨ (k + 30 ≤ a ∧ a < k + 66) ∨ (k + 66 ≤ a ∧ a < k + 72) ∨ (k + 72 ≤ a ∧ a < k + 78) ∨ (k + 78 ≤ a ∧ a < k + 84) ∨ (k + 84 ≤ a ∧ a < k + 123) ∨ (k + 123 ≤ a ∧ a < k + 130) ∨ (k + 130 ≤ a ∧ a < k + 134) ∨ (k + 134 ≤ a ∧ a < k + 175) ∨ (k + 175 ≤ a ∧ a < k + 181) by omega) with rfl | rfl | ⟨g1, g2⟩ | ⟨g1, g2⟩ | ⟨g1, g2⟩ | ⟨g1, g2⟩ | ⟨g1, g2⟩ | ⟨g1, g2⟩ | ⟨g1, g2⟩ | ⟨g1, g2⟩ | ⟨g1, g2⟩ | ⟨g1, g2⟩
  · have z1 := (h0 a (Nat.le_refl _)).1
    have z2 := (h0 a (Nat.le_refl _)).2.1
    refine ⟨?_, ?_, fun ci hci j hj h3 => ?_⟩
    · funext j
      simp only [sI, sL, sR, sRow, sRowL, fu, mg, z1]
      have e := ko_10 hk; subst e <;> simp only [iniI] <;> (repeat (first | rfl | split | omega | simp_all))
    · funext j
      simp only [sI, sL, sR, sRow, sRowL, fu, mg, z2]
      have e := ko_10 hk; subst e <;> simp only [iniL] <;> (repeat (first | rfl | split | omega | simp_all))
    · rw [hk] at hci; cases hci
      rw [e4]
      rcases (show j = 0 ∨ j = 1 ∨ j = 2 ∨ j = 3 ∨ j = 4 ∨ j = 5 ∨ j = 6 ∨ j = 7 ∨ j = 8 ∨ j = 9 ∨ j = 10 ∨ j = 11 ∨ j = 12 by simp only [fN] at hj; omega) with rfl | rfl | rfl | rfl | rfl | rfl | rfl | rfl | rfl | rfl | rfl | rfl | rfl
      all_goals first | exact absurd h3 (by decide) | skip
      all_goals refine ⟨by simp [zs, zm], fun h4 => ?_⟩
      all_goals first | exact absurd h4 (by decide) | skip
      all_goals (simp only [sI, sL, sR, sRow, sRowL, fu, mg]; have e := ko_10 hk; subst e <;> simp [iniR])
  · have z1 := (h0 (k + 1) (by omega)).1
    have z2 := (h0 (k + 1) (by omega)).2.1
    refine ⟨?_, ?_, fun ci hci j hj h3 => ?_⟩
    · funext j
      simp only [sI, sL, sR, sRow, sRowL, fu, mg, z1]
      have e := ko_10 hk; subst e <;> simp [iniI]
    · funext j
      simp only [sI, sL, sR, sRow, sRowL, fu, mg, z2]
      have e := ko_10 hk; subst e <;> simp [iniL]
    · exact (kd_ne4 (kd_X10_1 hk) (by decide) hci).elim
  · refine ⟨?_, ?_, fun ci hci j hj h3 => ?_⟩
    · funext j
      simp only [sI, sL, sR, sRow, sRowL, fu, mg]
      simp [g1, g2, ini, show ¬ a = k by omega]
    · funext j
      simp only [sI, sL, sR, sRow, sRowL, fu, mg]
      simp [g1, g2, ini, show ¬ a = k by omega]
    · rw [e4]
      refine ⟨?_, fun _ => ?_⟩
      · simp [zs, zm, g1, g2]
      · simp only [sI, sL, sR, sRow, sRowL, fu, mg]
        simp [g1, g2, ini, show ¬ a = k by omega]
  · refine ⟨?_, ?_, fun ci hci j hj h3 => ?_⟩
    · funext j
      simp only [sI, sL, sR, sRow, sRowL, fu, mg]
      simp [g1, g2, ini, show ¬ a = k by omega]
    · funext j
      simp only [sI, sL, sR, sRow, sRowL, fu, mg]
      simp [g1, g2, ini, show ¬ a = k by omega]
    · rw [e4]
      refine ⟨?_, fun _ => ?_⟩
      · simp [zs, zm, g1, g2]
      · simp only [sI, sL, sR, sRow, sRowL, fu, mg]
        simp [g1, g2, ini, show ¬ a = k by omega]
  · refine ⟨?_, ?_, fun ci hci j hj h3 => ?_⟩
    · funext j
      simp only [sI, sL, sR, sRow, sRowL, fu, mg]
      simp [g1, g2, ini, show ¬ a = k by omega]
    · funext j
      simp only [sI, sL, sR, sRow, sRowL, fu, mg]
      simp [g1, g2, ini, show ¬ a = k by omega]
    · rw [e4]
      refine ⟨?_, fun _ => ?_⟩
      · simp [zs, zm, g1, g2]
      · simp only [sI, sL, sR, sRow, sRowL, fu, mg]
        simp [g1, g2, ini, show ¬ a = k by omega]
  · refine ⟨?_, ?_, fun ci hci j hj h3 => ?_⟩
    · funext j
      simp only [sI, sL, sR, sRow, sRowL, fu, mg]
      simp [g1, g2, ini, show ¬ a = k by omega]
    · funext j
      simp only [sI, sL, sR, sRow, sRowL, fu, mg]
      simp [g1, g2, ini, show ¬ a = k by omega]
    · rw [e4]
      refine ⟨?_, fun _ => ?_⟩
      · simp [zs, zm, g1, g2]
      · simp only [sI, sL, sR, sRow, sRowL, fu, mg]
        simp [g1, g2, ini, show ¬ a = k by omega]
  · refine ⟨?_, ?_, fun ci hci j hj h3 => ?_⟩
    · funext j
      simp only [sI, sL, sR, sRow, sRowL, fu, mg]
      simp [g1, g2, ini, show ¬ a = k by omega]
    · funext j
      simp only [sI, sL, sR, sRow, sRowL, fu, mg]
      simp [g1, g2, ini, show ¬ a = k by omega]
    · rw [e4]
      refine ⟨?_, fun _ => ?_⟩
      · simp [zs, zm, g1, g2]
      · simp only [sI, sL, sR, sRow, sRowL, fu, mg]
        simp [g1, g2, ini, show ¬ a = k by omega]
  · refine ⟨?_, ?_, fun ci hci j hj h3 => ?_⟩
    · funext j
      simp only [sI, sL, sR, sRow, sRowL, fu, mg]
      simp [g1, g2, ini, show ¬ a = k by omega]
    · funext j
      simp only [sI, sL, sR, sRow, sRowL, fu, mg]
      simp [g1, g2, ini, show ¬ a = k by omega]
    · rw [e4]
      refine ⟨?_, fun _ => ?_⟩
      · simp [zs, zm, g1, g2]
      · simp only [sI, sL, sR, sRow, sRowL, fu, mg]
        simp [g1, g2, ini, show ¬ a = k by omega]
  · refine ⟨?_, ?_, fun ci hci j hj h3 => ?_⟩
    · funext j
      simp only [sI, sL, sR, sRow, sRowL, fu, mg]
      simp [g1, g2, ini, show ¬ a = k by omega]
    · funext j
      simp only [sI, sL, sR, sRow, sRowL, fu, mg]
      simp [g1, g2, ini, show ¬ a = k by omega]
    · rw [e4]
      refine ⟨?_, fun _ => ?_⟩
      · simp [zs, zm, g1, g2]
      · simp only [sI, sL, sR, sRow, sRowL, fu, mg]
        simp [g1, g2, ini, show ¬ a = k by omega]
  · refine ⟨?_, ?_, fun ci hci j hj h3 => ?_⟩
    · funext j
      simp only [sI, sL, sR, sRow, sRowL, fu, mg]
      simp [g1, g2, ini, show ¬ a = k by omega]
    · funext j
      simp only [sI, sL, sR, sRow, sRowL, fu, mg]
      simp [g1, g2, ini, show ¬ a = k by omega]
    · rw [e4]
      refine ⟨?_, fun _ => ?_⟩
      · simp [zs, zm, g1, g2]
      · simp only [sI, sL, sR, sRow, sRowL, fu, mg]
        simp [g1, g2, ini, show ¬ a = k by omega]
  · refine ⟨?_, ?_, fun ci hci j hj h3 => ?_⟩
    · funext j
      simp only [sI, sL, sR, sRow, sRowL, fu, mg]
      simp [g1, g2, ini, show ¬ a = k by omega]
    · funext j
      simp only [sI, sL, sR, sRow, sRowL, fu, mg]
      simp [g1, g2, ini, show ¬ a = k by omega]
    · rw [e4]
      refine ⟨?_, fun _ => ?_⟩
      · simp [zs, zm, g1, g2]
      · simp only [sI, sL, sR, sRow, sRowL, fu, mg]
        simp [g1, g2, ini, show ¬ a = k by omega]
  · refine ⟨?_, ?_, fun ci hci j hj h3 => ?_⟩
    · funext j
      simp only [sI, sL, sR, sRow, sRowL, fu, mg]
      simp [g1, g2, ini, show ¬ a = k by omega]
    · funext j
      simp only [sI, sL, sR, sRow, sRowL, fu, mg]
      simp [g1, g2, ini, show ¬ a = k by omega]
    · rw [e4]
      refine ⟨?_, fun _ => ?_⟩
      · simp [zs, zm, g1, g2]
      · simp only [sI, sL, sR, sRow, sRowL, fu, mg]
        simp [g1, g2, ini, show ¬ a = k by omega]
set_option maxHeartbeats 4000000 in
set_option maxRecDepth 100000 in
theorem k_X10 (l : Launch) (w : fW) (hAD : fAD w) (k : Nat) (hk : kd k = (4, 10)) (z : Nat → Nat → Bool) (μ0 : fMem) (h0 : Z0 k μ0 z) : Met l yX10_init (.code yX10_init cX10_init 1 none :: gw) ri_X10 (cPc w k z μ0) (cQ w k (k + 181) (zm z k (k + 181)) (mg μ0 ini k (k + 181))) 180 6597 (fun q => w.2.2.1 k ≤ q) := by
  have hkb := kb_X10 hk
  refine cmet_of hAD (by decide) rfl ?_ (by decide)
  intro p e s m below meth c ls C hr hP hs0 hl hS
  obtain ⟨hx, hb, hml, hown, hts, hK, -, hlk, hT, hNs, -⟩ := id C
  have hsz := hs0
  have hZ : Z0 (k + 1) μ0 z := h0.mono (Nat.le_succ k)
  have hA : ∀ {n : Nat}, n ≤ 221 → ∀ a, k ≤ a → a < n → (fun q => w.2.2.1 k ≤ q) (w.2.2.1 a) := fun hn a h1 h2 => hAD.up (n := a) h1 (by omega) (Nat.le_refl _)
  refine lv_aload_n hx hb dX10_init_0 rfl (lv_at hl 0 rfl) ?_
  refine W.objInit hx hb hown (hts _ ol_X10_3) (hts _ oi.1) (hts _ oi.2) rfl (by rw [hml]; exact hl.1) rfl dX10_init_1 (by decide) (Nat.le_of_ble_eq_true rfl) ?_
  refine W.eq (g2 := F0 m 4 ls []) rfl ?_
  refine lv_aload_n hx hb dX10_init_4 rfl (lv_at hl 0 rfl) ?_
  refine lv_sipush (v := (700)) hx hb dX10_init_5 (by decide) ?_
  refine a_newarr C hP hS hsz (by omega) (Or.inl ⟨rfl, rfl⟩) (kd_X10_1 hk) (by decide) (by decide) (by decide) ac_int (hZ (k + 1) (Nat.le_refl _)).1 (hZ (k + 1) (Nat.le_refl _)).2.1 (by decide) (by decide) dX10_init_8 (fun H hP hS hsz _ => ?_)
  have hP : fP (wz w k (k + 2) z) μ0 H := hP
  have hsz : H.size = w.2.2.1 (k + 2) := hsz
  have hZ : Z0 (k + 2) μ0 z := hZ.mono (by omega)
  refine a_p3 C hP hS (hA (by omega)) (by omega) (v := k + 1) ⟨Nat.le_refl _, by omega⟩ hk ff_X10_11 rfl rfl (fun _ => ⟨rfl, rfl⟩) rfl dX10_init_10 (fun H locs hP hS hs9 => ?_)
  rw [hsz] at hs9
  have hsz := hs9
  have hZ : Z0 (k + 2) μ0 (zs z k 0) := hZ.zs (by omega)
  refine lv_aload_n hx hb dX10_init_13 rfl (lv_at hl 0 rfl) ?_
  refine lv_iconst (v := (0)) hx hb dX10_init_14 (by decide) ?_
  refine a_p0 C hP hS (hA (by omega)) (by omega) ⟨Nat.le_refl _, by omega⟩ hk fp_X10_15 (Or.inl ⟨rfl, rfl⟩) dX10_init_15 (fun H locs hP hS hs9 => ?_)
  rw [hsz] at hs9
  have hsz := hs9
  have hZ : Z0 (k + 2) (sI μ0 k 1 (0)) (zs z k 0) := hZ.sI (by omega)
  refine lv_aload_n hx hb dX10_init_18 rfl (lv_at hl 0 rfl) ?_
  refine a_new C hP hS hsz (by omega) (kd_X10_2 hk) rfl nl_X10_19 (hZ (k + 2) (Nat.le_refl _)).1 (hZ (k + 2) (Nat.le_refl _)).2.1 (hZ (k + 2) (Nat.le_refl _)).2.2 (by decide) (by decide) dX10_init_19 (fun H hP hS hsz _ => ?_)
  have hP : fP (wz w k (k + 2 + 1) (zs z k 0)) (sI μ0 k 1 (0)) H := hP
  have hsz : H.size = w.2.2.1 (k + 2 + 1) := hsz
  refine lv_dup hx hb dX10_init_22 rfl ?_
  refine a_init (rest := [.ref (w.2.2.1 (k + 2)), .ref (w.2.2.1 k)]) C hl hP (by omega) (by omega) hS (fun q h => hAD.up (by omega) (by omega) h) (fun q h => hAD.up0 (by omega) h) hsz il_X10_21 (k_X2 l w hAD (k + 2) (kd_X10_2 hk) (zs z k 0) (sI μ0 k 1 (0)) hZ) ⟨rfl, rfl, by decide, by decide⟩ (Nat.le_of_ble_eq_true rfl) ⟨by decide, by decide⟩ dX10_init_23 (fun H locs hPn hPo hS hsz => ?_)
  have hP := fP_mg (by omega) hPo hPn
  have hP : fP (wz w k (k + 30) (zm (zs z k 0) (k + 2) (k + 30))) (mg (sI μ0 k 1 (0)) ini (k + 2) (k + 30)) H := hP
  have hsz : H.size = w.2.2.1 (k + 30) := hsz
  have hZ : Z0 (k + 30) (mg (sI μ0 k 1 (0)) ini (k + 2) (k + 30)) (zm (zs z k 0) (k + 2) (k + 30)) := (hZ.mono (by omega)).mg (Nat.le_refl _)
  refine a_p4 C hP hS (hA (by omega)) (by omega) (v := k + 2) ⟨Nat.le_refl _, by omega⟩ hk fp_X10_22 rfl dX10_init_26 (fun H locs hP hS hs9 => ?_)
  rw [hsz] at hs9
  have hsz := hs9
  have hZ : Z0 (k + 30) (sR (mg (sI μ0 k 1 (0)) ini (k + 2) (k + 30)) k 2 (k + 2)) (zs (zm (zs z k 0) (k + 2) (k + 30)) k 2) := (hZ.zs (by omega)).sR
  refine lv_aload_n hx hb dX10_init_29 rfl (lv_at hl 0 rfl) ?_
  refine a_new C hP hS hsz (by omega) (kd_X10_30 hk) rfl nl_X10_26 (hZ (k + 30) (Nat.le_refl _)).1 (hZ (k + 30) (Nat.le_refl _)).2.1 (hZ (k + 30) (Nat.le_refl _)).2.2 (by decide) (by decide) dX10_init_30 (fun H hP hS hsz _ => ?_)
  have hP : fP (wz w k (k + 30 + 1) (zs (zm (zs z k 0) (k + 2) (k + 30)) k 2)) (sR (mg (sI μ0 k 1 (0)) ini (k + 2) (k + 30)) k 2 (k + 2)) H := hP
  have hsz : H.size = w.2.2.1 (k + 30 + 1) := hsz
  refine lv_dup hx hb dX10_init_33 rfl ?_
  refine a_init (rest := [.ref (w.2.2.1 (k + 30)), .ref (w.2.2.1 k)]) C hl hP (by omega) (by omega) hS (fun q h => hAD.up (by omega) (by omega) h) (fun q h => hAD.up0 (by omega) h) hsz il_X10_28 (k_X5 l w hAD (k + 30) (kd_X10_30 hk) (zs (zm (zs z k 0) (k + 2) (k + 30)) k 2) (sR (mg (sI μ0 k 1 (0)) ini (k + 2) (k + 30)) k 2 (k + 2)) hZ) ⟨rfl, rfl, by decide, by decide⟩ (Nat.le_of_ble_eq_true rfl) ⟨by decide, by decide⟩ dX10_init_34 (fun H locs hPn hPo hS hsz => ?_)
  have hP := fP_mg (by omega) hPo hPn
  have hP : fP (wz w k (k + 66) (zm (zs (zm (zs z k 0) (k + 2) (k + 30)) k 2) (k + 30) (k + 66))) (mg (sR (mg (sI μ0 k 1 (0)) ini (k + 2) (k + 30)) k 2 (k + 2)) ini (k + 30) (k + 66)) H := hP
  have hsz : H.size = w.2.2.1 (k + 66) := hsz
  have hZ : Z0 (k + 66) (mg (sR (mg (sI μ0 k 1 (0)) ini (k + 2) (k + 30)) k 2 (k + 2)) ini (k + 30) (k + 66)) (zm (zs (zm (zs z k 0) (k + 2) (k + 30)) k 2) (k + 30) (k + 66)) := (hZ.mono (by omega)).mg (Nat.le_refl _)
  refine a_p3 C hP hS (hA (by omega)) (by omega) (v := k + 30) ⟨Nat.le_refl _, by omega⟩ hk ff_X10_29 rfl rfl (fun _ => ⟨rfl, rfl⟩) rfl dX10_init_37 (fun H locs hP hS hs9 => ?_)
  rw [hsz] at hs9
  have hsz := hs9
  have hZ : Z0 (k + 66) (mg (sR (mg (sI μ0 k 1 (0)) ini (k + 2) (k + 30)) k 2 (k + 2)) ini (k + 30) (k + 66)) (zs (zm (zs (zm (zs z k 0) (k + 2) (k + 30)) k 2) (k + 30) (k + 66)) k 3) := hZ.zs (by omega)
  refine lv_aload_n hx hb dX10_init_40 rfl (lv_at hl 0 rfl) ?_
  refine a_new C hP hS hsz (by omega) (kd_X10_66 hk) rfl nl_X10_33 (hZ (k + 66) (Nat.le_refl _)).1 (hZ (k + 66) (Nat.le_refl _)).2.1 (hZ (k + 66) (Nat.le_refl _)).2.2 (by decide) (by decide) dX10_init_41 (fun H hP hS hsz _ => ?_)
  have hP : fP (wz w k (k + 66 + 1) (zs (zm (zs (zm (zs z k 0) (k + 2) (k + 30)) k 2) (k + 30) (k + 66)) k 3)) (mg (sR (mg (sI μ0 k 1 (0)) ini (k + 2) (k + 30)) k 2 (k + 2)) ini (k + 30) (k + 66)) H := hP
  have hsz : H.size = w.2.2.1 (k + 66 + 1) := hsz
  refine lv_dup hx hb dX10_init_44 rfl ?_
  refine a_init (rest := [.ref (w.2.2.1 (k + 66)), .ref (w.2.2.1 k)]) C hl hP (by omega) (by omega) hS (fun q h => hAD.up (by omega) (by omega) h) (fun q h => hAD.up0 (by omega) h) hsz il_X10_35 (k_X7 l w hAD (k + 66) (kd_X10_66 hk) (zs (zm (zs (zm (zs z k 0) (k + 2) (k + 30)) k 2) (k + 30) (k + 66)) k 3) (mg (sR (mg (sI μ0 k 1 (0)) ini (k + 2) (k + 30)) k 2 (k + 2)) ini (k + 30) (k + 66)) hZ) ⟨rfl, rfl, by decide, by decide⟩ (Nat.le_of_ble_eq_true rfl) ⟨by decide, by decide⟩ dX10_init_45 (fun H locs hPn hPo hS hsz => ?_)
  have hP := fP_mg (by omega) hPo hPn
  have hP : fP (wz w k (k + 72) (zm (zs (zm (zs (zm (zs z k 0) (k + 2) (k + 30)) k 2) (k + 30) (k + 66)) k 3) (k + 66) (k + 72))) (mg (mg (sR (mg (sI μ0 k 1 (0)) ini (k + 2) (k + 30)) k 2 (k + 2)) ini (k + 30) (k + 66)) ini (k + 66) (k + 72)) H := hP
  have hsz : H.size = w.2.2.1 (k + 72) := hsz
  have hZ : Z0 (k + 72) (mg (mg (sR (mg (sI μ0 k 1 (0)) ini (k + 2) (k + 30)) k 2 (k + 2)) ini (k + 30) (k + 66)) ini (k + 66) (k + 72)) (zm (zs (zm (zs (zm (zs z k 0) (k + 2) (k + 30)) k 2) (k + 30) (k + 66)) k 3) (k + 66) (k + 72)) := (hZ.mono (by omega)).mg (Nat.le_refl _)
  refine a_p3 C hP hS (hA (by omega)) (by omega) (v := k + 66) ⟨Nat.le_refl _, by omega⟩ hk ff_X10_36 rfl rfl (fun _ => ⟨rfl, rfl⟩) rfl dX10_init_48 (fun H locs hP hS hs9 => ?_)
  rw [hsz] at hs9
  have hsz := hs9
  have hZ : Z0 (k + 72) (mg (mg (sR (mg (sI μ0 k 1 (0)) ini (k + 2) (k + 30)) k 2 (k + 2)) ini (k + 30) (k + 66)) ini (k + 66) (k + 72)) (zs (zm (zs (zm (zs (zm (zs z k 0) (k + 2) (k + 30)) k 2) (k + 30) (k + 66)) k 3) (k + 66) (k + 72)) k 4) := hZ.zs (by omega)
  refine lv_aload_n hx hb dX10_init_51 rfl (lv_at hl 0 rfl) ?_
  refine a_new C hP hS hsz (by omega) (kd_X10_72 hk) rfl nl_X10_33 (hZ (k + 72) (Nat.le_refl _)).1 (hZ (k + 72) (Nat.le_refl _)).2.1 (hZ (k + 72) (Nat.le_refl _)).2.2 (by decide) (by decide) dX10_init_52 (fun H hP hS hsz _ => ?_)
  have hP : fP (wz w k (k + 72 + 1) (zs (zm (zs (zm (zs (zm (zs z k 0) (k + 2) (k + 30)) k 2) (k + 30) (k + 66)) k 3) (k + 66) (k + 72)) k 4)) (mg (mg (sR (mg (sI μ0 k 1 (0)) ini (k + 2) (k + 30)) k 2 (k + 2)) ini (k + 30) (k + 66)) ini (k + 66) (k + 72)) H := hP
  have hsz : H.size = w.2.2.1 (k + 72 + 1) := hsz
  refine lv_dup hx hb dX10_init_55 rfl ?_
  refine a_init (rest := [.ref (w.2.2.1 (k + 72)), .ref (w.2.2.1 k)]) C hl hP (by omega) (by omega) hS (fun q h => hAD.up (by omega) (by omega) h) (fun q h => hAD.up0 (by omega) h) hsz il_X10_35 (k_X7 l w hAD (k + 72) (kd_X10_72 hk) (zs (zm (zs (zm (zs (zm (zs z k 0) (k + 2) (k + 30)) k 2) (k + 30) (k + 66)) k 3) (k + 66) (k + 72)) k 4) (mg (mg (sR (mg (sI μ0 k 1 (0)) ini (k + 2) (k + 30)) k 2 (k + 2)) ini (k + 30) (k + 66)) ini (k + 66) (k + 72)) hZ) ⟨rfl, rfl, by decide, by decide⟩ (Nat.le_of_ble_eq_true rfl) ⟨by decide, by decide⟩ dX10_init_56 (fun H locs hPn hPo hS hsz => ?_)
  have hP := fP_mg (by omega) hPo hPn
  have hP : fP (wz w k (k + 78) (zm (zs (zm (zs (zm (zs (zm (zs z k 0) (k + 2) (k + 30)) k 2) (k + 30) (k + 66)) k 3) (k + 66) (k + 72)) k 4) (k + 72) (k + 78))) (mg (mg (mg (sR (mg (sI μ0 k 1 (0)) ini (k + 2) (k + 30)) k 2 (k + 2)) ini (k + 30) (k + 66)) ini (k + 66) (k + 72)) ini (k + 72) (k + 78)) H := hP
  have hsz : H.size = w.2.2.1 (k + 78) := hsz
  have hZ : Z0 (k + 78) (mg (mg (mg (sR (mg (sI μ0 k 1 (0)) ini (k + 2) (k + 30)) k 2 (k + 2)) ini (k + 30) (k + 66)) ini (k + 66) (k + 72)) ini (k + 72) (k + 78)) (zm (zs (zm (zs (zm (zs (zm (zs z k 0) (k + 2) (k + 30)) k 2) (k + 30) (k + 66)) k 3) (k + 66) (k + 72)) k 4) (k + 72) (k + 78)) := (hZ.mono (by omega)).mg (Nat.le_refl _)
  refine a_p3 C hP hS (hA (by omega)) (by omega) (v := k + 72) ⟨Nat.le_refl _, by omega⟩ hk ff_X10_40 rfl rfl (fun _ => ⟨rfl, rfl⟩) rfl dX10_init_59 (fun H locs hP hS hs9 => ?_)
  rw [hsz] at hs9
  have hsz := hs9
  have hZ : Z0 (k + 78) (mg (mg (mg (sR (mg (sI μ0 k 1 (0)) ini (k + 2) (k + 30)) k 2 (k + 2)) ini (k + 30) (k + 66)) ini (k + 66) (k + 72)) ini (k + 72) (k + 78)) (zs (zm (zs (zm (zs (zm (zs (zm (zs z k 0) (k + 2) (k + 30)) k 2) (k + 30) (k + 66)) k 3) (k + 66) (k + 72)) k 4) (k + 72) (k + 78)) k 5) := hZ.zs (by omega)
  refine lv_aload_n hx hb dX10_init_62 rfl (lv_at hl 0 rfl) ?_
  refine lv_iconst (v := (0)) hx hb dX10_init_63 (by decide) ?_
  refine a_p0 C hP hS (hA (by omega)) (by omega) ⟨Nat.le_refl _, by omega⟩ hk fp_X10_43 (Or.inr ⟨rfl, rfl, Or.inl rfl⟩) dX10_init_64 (fun H locs hP hS hs9 => ?_)
  rw [hsz] at hs9
  have hsz := hs9
  have hZ : Z0 (k + 78) (sI (mg (mg (mg (sR (mg (sI μ0 k 1 (0)) ini (k + 2) (k + 30)) k 2 (k + 2)) ini (k + 30) (k + 66)) ini (k + 66) (k + 72)) ini (k + 72) (k + 78)) k 6 (0)) (zs (zm (zs (zm (zs (zm (zs (zm (zs z k 0) (k + 2) (k + 30)) k 2) (k + 30) (k + 66)) k 3) (k + 66) (k + 72)) k 4) (k + 72) (k + 78)) k 5) := hZ.sI (by omega)
  refine lv_aload_n hx hb dX10_init_67 rfl (lv_at hl 0 rfl) ?_
  refine a_new C hP hS hsz (by omega) (kd_X10_78 hk) rfl nl_X10_33 (hZ (k + 78) (Nat.le_refl _)).1 (hZ (k + 78) (Nat.le_refl _)).2.1 (hZ (k + 78) (Nat.le_refl _)).2.2 (by decide) (by decide) dX10_init_68 (fun H hP hS hsz _ => ?_)
  have hP : fP (wz w k (k + 78 + 1) (zs (zm (zs (zm (zs (zm (zs (zm (zs z k 0) (k + 2) (k + 30)) k 2) (k + 30) (k + 66)) k 3) (k + 66) (k + 72)) k 4) (k + 72) (k + 78)) k 5)) (sI (mg (mg (mg (sR (mg (sI μ0 k 1 (0)) ini (k + 2) (k + 30)) k 2 (k + 2)) ini (k + 30) (k + 66)) ini (k + 66) (k + 72)) ini (k + 72) (k + 78)) k 6 (0)) H := hP
  have hsz : H.size = w.2.2.1 (k + 78 + 1) := hsz
  refine lv_dup hx hb dX10_init_71 rfl ?_
  refine a_init (rest := [.ref (w.2.2.1 (k + 78)), .ref (w.2.2.1 k)]) C hl hP (by omega) (by omega) hS (fun q h => hAD.up (by omega) (by omega) h) (fun q h => hAD.up0 (by omega) h) hsz il_X10_35 (k_X7 l w hAD (k + 78) (kd_X10_78 hk) (zs (zm (zs (zm (zs (zm (zs (zm (zs z k 0) (k + 2) (k + 30)) k 2) (k + 30) (k + 66)) k 3) (k + 66) (k + 72)) k 4) (k + 72) (k + 78)) k 5) (sI (mg (mg (mg (sR (mg (sI μ0 k 1 (0)) ini (k + 2) (k + 30)) k 2 (k + 2)) ini (k + 30) (k + 66)) ini (k + 66) (k + 72)) ini (k + 72) (k + 78)) k 6 (0)) hZ) ⟨rfl, rfl, by decide, by decide⟩ (Nat.le_of_ble_eq_true rfl) ⟨by decide, by decide⟩ dX10_init_72 (fun H locs hPn hPo hS hsz => ?_)
  have hP := fP_mg (by omega) hPo hPn
  have hP : fP (wz w k (k + 84) (zm (zs (zm (zs (zm (zs (zm (zs (zm (zs z k 0) (k + 2) (k + 30)) k 2) (k + 30) (k + 66)) k 3) (k + 66) (k + 72)) k 4) (k + 72) (k + 78)) k 5) (k + 78) (k + 84))) (mg (sI (mg (mg (mg (sR (mg (sI μ0 k 1 (0)) ini (k + 2) (k + 30)) k 2 (k + 2)) ini (k + 30) (k + 66)) ini (k + 66) (k + 72)) ini (k + 72) (k + 78)) k 6 (0)) ini (k + 78) (k + 84)) H := hP
  have hsz : H.size = w.2.2.1 (k + 84) := hsz
  have hZ : Z0 (k + 84) (mg (sI (mg (mg (mg (sR (mg (sI μ0 k 1 (0)) ini (k + 2) (k + 30)) k 2 (k + 2)) ini (k + 30) (k + 66)) ini (k + 66) (k + 72)) ini (k + 72) (k + 78)) k 6 (0)) ini (k + 78) (k + 84)) (zm (zs (zm (zs (zm (zs (zm (zs (zm (zs z k 0) (k + 2) (k + 30)) k 2) (k + 30) (k + 66)) k 3) (k + 66) (k + 72)) k 4) (k + 72) (k + 78)) k 5) (k + 78) (k + 84)) := (hZ.mono (by omega)).mg (Nat.le_refl _)
  refine a_p3 C hP hS (hA (by omega)) (by omega) (v := k + 78) ⟨Nat.le_refl _, by omega⟩ hk ff_X10_47 rfl rfl (fun _ => ⟨rfl, rfl⟩) rfl dX10_init_75 (fun H locs hP hS hs9 => ?_)
  rw [hsz] at hs9
  have hsz := hs9
  have hZ : Z0 (k + 84) (mg (sI (mg (mg (mg (sR (mg (sI μ0 k 1 (0)) ini (k + 2) (k + 30)) k 2 (k + 2)) ini (k + 30) (k + 66)) ini (k + 66) (k + 72)) ini (k + 72) (k + 78)) k 6 (0)) ini (k + 78) (k + 84)) (zs (zm (zs (zm (zs (zm (zs (zm (zs (zm (zs z k 0) (k + 2) (k + 30)) k 2) (k + 30) (k + 66)) k 3) (k + 66) (k + 72)) k 4) (k + 72) (k + 78)) k 5) (k + 78) (k + 84)) k 7) := hZ.zs (by omega)
  refine lv_aload_n hx hb dX10_init_78 rfl (lv_at hl 0 rfl) ?_
  refine a_new C hP hS hsz (by omega) (kd_X10_84 hk) rfl nl_X10_50 (hZ (k + 84) (Nat.le_refl _)).1 (hZ (k + 84) (Nat.le_refl _)).2.1 (hZ (k + 84) (Nat.le_refl _)).2.2 (by decide) (by decide) dX10_init_79 (fun H hP hS hsz _ => ?_)
  have hP : fP (wz w k (k + 84 + 1) (zs (zm (zs (zm (zs (zm (zs (zm (zs (zm (zs z k 0) (k + 2) (k + 30)) k 2) (k + 30) (k + 66)) k 3) (k + 66) (k + 72)) k 4) (k + 72) (k + 78)) k 5) (k + 78) (k + 84)) k 7)) (mg (sI (mg (mg (mg (sR (mg (sI μ0 k 1 (0)) ini (k + 2) (k + 30)) k 2 (k + 2)) ini (k + 30) (k + 66)) ini (k + 66) (k + 72)) ini (k + 72) (k + 78)) k 6 (0)) ini (k + 78) (k + 84)) H := hP
  have hsz : H.size = w.2.2.1 (k + 84 + 1) := hsz
  refine lv_dup hx hb dX10_init_82 rfl ?_
  refine a_init (rest := [.ref (w.2.2.1 (k + 84)), .ref (w.2.2.1 k)]) C hl hP (by omega) (by omega) hS (fun q h => hAD.up (by omega) (by omega) h) (fun q h => hAD.up0 (by omega) h) hsz il_X10_52 (k_X0 l w hAD (k + 84) (kd_X10_84 hk) (zs (zm (zs (zm (zs (zm (zs (zm (zs (zm (zs z k 0) (k + 2) (k + 30)) k 2) (k + 30) (k + 66)) k 3) (k + 66) (k + 72)) k 4) (k + 72) (k + 78)) k 5) (k + 78) (k + 84)) k 7) (mg (sI (mg (mg (mg (sR (mg (sI μ0 k 1 (0)) ini (k + 2) (k + 30)) k 2 (k + 2)) ini (k + 30) (k + 66)) ini (k + 66) (k + 72)) ini (k + 72) (k + 78)) k 6 (0)) ini (k + 78) (k + 84)) hZ) ⟨rfl, rfl, by decide, by decide⟩ (Nat.le_of_ble_eq_true rfl) ⟨by decide, by decide⟩ dX10_init_83 (fun H locs hPn hPo hS hsz => ?_)
  have hP := fP_mg (by omega) hPo hPn
  have hP : fP (wz w k (k + 123) (zm (zs (zm (zs (zm (zs (zm (zs (zm (zs (zm (zs z k 0) (k + 2) (k + 30)) k 2) (k + 30) (k + 66)) k 3) (k + 66) (k + 72)) k 4) (k + 72) (k + 78)) k 5) (k + 78) (k + 84)) k 7) (k + 84) (k + 123))) (mg (mg (sI (mg (mg (mg (sR (mg (sI μ0 k 1 (0)) ini (k + 2) (k + 30)) k 2 (k + 2)) ini (k + 30) (k + 66)) ini (k + 66) (k + 72)) ini (k + 72) (k + 78)) k 6 (0)) ini (k + 78) (k + 84)) ini (k + 84) (k + 123)) H := hP
  have hsz : H.size = w.2.2.1 (k + 123) := hsz
  have hZ : Z0 (k + 123) (mg (mg (sI (mg (mg (mg (sR (mg (sI μ0 k 1 (0)) ini (k + 2) (k + 30)) k 2 (k + 2)) ini (k + 30) (k + 66)) ini (k + 66) (k + 72)) ini (k + 72) (k + 78)) k 6 (0)) ini (k + 78) (k + 84)) ini (k + 84) (k + 123)) (zm (zs (zm (zs (zm (zs (zm (zs (zm (zs (zm (zs z k 0) (k + 2) (k + 30)) k 2) (k + 30) (k + 66)) k 3) (k + 66) (k + 72)) k 4) (k + 72) (k + 78)) k 5) (k + 78) (k + 84)) k 7) (k + 84) (k + 123)) := (hZ.mono (by omega)).mg (Nat.le_refl _)
  refine a_p3 C hP hS (hA (by omega)) (by omega) (v := k + 84) ⟨Nat.le_refl _, by omega⟩ hk ff_X10_53 rfl rfl (fun _ => ⟨rfl, rfl⟩) rfl dX10_init_86 (fun H locs hP hS hs9 => ?_)
  rw [hsz] at hs9
  have hsz := hs9
  have hZ : Z0 (k + 123) (mg (mg (sI (mg (mg (mg (sR (mg (sI μ0 k 1 (0)) ini (k + 2) (k + 30)) k 2 (k + 2)) ini (k + 30) (k + 66)) ini (k + 66) (k + 72)) ini (k + 72) (k + 78)) k 6 (0)) ini (k + 78) (k + 84)) ini (k + 84) (k + 123)) (zs (zm (zs (zm (zs (zm (zs (zm (zs (zm (zs (zm (zs z k 0) (k + 2) (k + 30)) k 2) (k + 30) (k + 66)) k 3) (k + 66) (k + 72)) k 4) (k + 72) (k + 78)) k 5) (k + 78) (k + 84)) k 7) (k + 84) (k + 123)) k 8) := hZ.zs (by omega)
  refine lv_aload_n hx hb dX10_init_89 rfl (lv_at hl 0 rfl) ?_
  refine a_new C hP hS hsz (by omega) (kd_X10_123 hk) rfl nl_X10_57 (hZ (k + 123) (Nat.le_refl _)).1 (hZ (k + 123) (Nat.le_refl _)).2.1 (hZ (k + 123) (Nat.le_refl _)).2.2 (by decide) (by decide) dX10_init_90 (fun H hP hS hsz _ => ?_)
  have hP : fP (wz w k (k + 123 + 1) (zs (zm (zs (zm (zs (zm (zs (zm (zs (zm (zs (zm (zs z k 0) (k + 2) (k + 30)) k 2) (k + 30) (k + 66)) k 3) (k + 66) (k + 72)) k 4) (k + 72) (k + 78)) k 5) (k + 78) (k + 84)) k 7) (k + 84) (k + 123)) k 8)) (mg (mg (sI (mg (mg (mg (sR (mg (sI μ0 k 1 (0)) ini (k + 2) (k + 30)) k 2 (k + 2)) ini (k + 30) (k + 66)) ini (k + 66) (k + 72)) ini (k + 72) (k + 78)) k 6 (0)) ini (k + 78) (k + 84)) ini (k + 84) (k + 123)) H := hP
  have hsz : H.size = w.2.2.1 (k + 123 + 1) := hsz
  refine lv_dup hx hb dX10_init_93 rfl ?_
  refine a_init (rest := [.ref (w.2.2.1 (k + 123)), .ref (w.2.2.1 k)]) C hl hP (by omega) (by omega) hS (fun q h => hAD.up (by omega) (by omega) h) (fun q h => hAD.up0 (by omega) h) hsz il_X10_59 (k_X4 l w hAD (k + 123) (kd_X10_123 hk) (zs (zm (zs (zm (zs (zm (zs (zm (zs (zm (zs (zm (zs z k 0) (k + 2) (k + 30)) k 2) (k + 30) (k + 66)) k 3) (k + 66) (k + 72)) k 4) (k + 72) (k + 78)) k 5) (k + 78) (k + 84)) k 7) (k + 84) (k + 123)) k 8) (mg (mg (sI (mg (mg (mg (sR (mg (sI μ0 k 1 (0)) ini (k + 2) (k + 30)) k 2 (k + 2)) ini (k + 30) (k + 66)) ini (k + 66) (k + 72)) ini (k + 72) (k + 78)) k 6 (0)) ini (k + 78) (k + 84)) ini (k + 84) (k + 123)) hZ) ⟨rfl, rfl, by decide, by decide⟩ (Nat.le_of_ble_eq_true rfl) ⟨by decide, by decide⟩ dX10_init_94 (fun H locs hPn hPo hS hsz => ?_)
  have hP := fP_mg (by omega) hPo hPn
  have hP : fP (wz w k (k + 130) (zm (zs (zm (zs (zm (zs (zm (zs (zm (zs (zm (zs (zm (zs z k 0) (k + 2) (k + 30)) k 2) (k + 30) (k + 66)) k 3) (k + 66) (k + 72)) k 4) (k + 72) (k + 78)) k 5) (k + 78) (k + 84)) k 7) (k + 84) (k + 123)) k 8) (k + 123) (k + 130))) (mg (mg (mg (sI (mg (mg (mg (sR (mg (sI μ0 k 1 (0)) ini (k + 2) (k + 30)) k 2 (k + 2)) ini (k + 30) (k + 66)) ini (k + 66) (k + 72)) ini (k + 72) (k + 78)) k 6 (0)) ini (k + 78) (k + 84)) ini (k + 84) (k + 123)) ini (k + 123) (k + 130)) H := hP
  have hsz : H.size = w.2.2.1 (k + 130) := hsz
  have hZ : Z0 (k + 130) (mg (mg (mg (sI (mg (mg (mg (sR (mg (sI μ0 k 1 (0)) ini (k + 2) (k + 30)) k 2 (k + 2)) ini (k + 30) (k + 66)) ini (k + 66) (k + 72)) ini (k + 72) (k + 78)) k 6 (0)) ini (k + 78) (k + 84)) ini (k + 84) (k + 123)) ini (k + 123) (k + 130)) (zm (zs (zm (zs (zm (zs (zm (zs (zm (zs (zm (zs (zm (zs z k 0) (k + 2) (k + 30)) k 2) (k + 30) (k + 66)) k 3) (k + 66) (k + 72)) k 4) (k + 72) (k + 78)) k 5) (k + 78) (k + 84)) k 7) (k + 84) (k + 123)) k 8) (k + 123) (k + 130)) := (hZ.mono (by omega)).mg (Nat.le_refl _)
  refine a_p3 C hP hS (hA (by omega)) (by omega) (v := k + 123) ⟨Nat.le_refl _, by omega⟩ hk ff_X10_60 rfl rfl (fun _ => ⟨rfl, rfl⟩) rfl dX10_init_97 (fun H locs hP hS hs9 => ?_)
  rw [hsz] at hs9
  have hsz := hs9
  have hZ : Z0 (k + 130) (mg (mg (mg (sI (mg (mg (mg (sR (mg (sI μ0 k 1 (0)) ini (k + 2) (k + 30)) k 2 (k + 2)) ini (k + 30) (k + 66)) ini (k + 66) (k + 72)) ini (k + 72) (k + 78)) k 6 (0)) ini (k + 78) (k + 84)) ini (k + 84) (k + 123)) ini (k + 123) (k + 130)) (zs (zm (zs (zm (zs (zm (zs (zm (zs (zm (zs (zm (zs (zm (zs z k 0) (k + 2) (k + 30)) k 2) (k + 30) (k + 66)) k 3) (k + 66) (k + 72)) k 4) (k + 72) (k + 78)) k 5) (k + 78) (k + 84)) k 7) (k + 84) (k + 123)) k 8) (k + 123) (k + 130)) k 9) := hZ.zs (by omega)
  refine lv_aload_n hx hb dX10_init_100 rfl (lv_at hl 0 rfl) ?_
  refine a_new C hP hS hsz (by omega) (kd_X10_130 hk) rfl nl_X10_64 (hZ (k + 130) (Nat.le_refl _)).1 (hZ (k + 130) (Nat.le_refl _)).2.1 (hZ (k + 130) (Nat.le_refl _)).2.2 (by decide) (by decide) dX10_init_101 (fun H hP hS hsz _ => ?_)
  have hP : fP (wz w k (k + 130 + 1) (zs (zm (zs (zm (zs (zm (zs (zm (zs (zm (zs (zm (zs (zm (zs z k 0) (k + 2) (k + 30)) k 2) (k + 30) (k + 66)) k 3) (k + 66) (k + 72)) k 4) (k + 72) (k + 78)) k 5) (k + 78) (k + 84)) k 7) (k + 84) (k + 123)) k 8) (k + 123) (k + 130)) k 9)) (mg (mg (mg (sI (mg (mg (mg (sR (mg (sI μ0 k 1 (0)) ini (k + 2) (k + 30)) k 2 (k + 2)) ini (k + 30) (k + 66)) ini (k + 66) (k + 72)) ini (k + 72) (k + 78)) k 6 (0)) ini (k + 78) (k + 84)) ini (k + 84) (k + 123)) ini (k + 123) (k + 130)) H := hP
  have hsz : H.size = w.2.2.1 (k + 130 + 1) := hsz
  refine lv_dup hx hb dX10_init_104 rfl ?_
  refine a_init (rest := [.ref (w.2.2.1 (k + 130)), .ref (w.2.2.1 k)]) C hl hP (by omega) (by omega) hS (fun q h => hAD.up (by omega) (by omega) h) (fun q h => hAD.up0 (by omega) h) hsz il_X10_66 (k_X8 l w hAD (k + 130) (kd_X10_130 hk) (zs (zm (zs (zm (zs (zm (zs (zm (zs (zm (zs (zm (zs (zm (zs z k 0) (k + 2) (k + 30)) k 2) (k + 30) (k + 66)) k 3) (k + 66) (k + 72)) k 4) (k + 72) (k + 78)) k 5) (k + 78) (k + 84)) k 7) (k + 84) (k + 123)) k 8) (k + 123) (k + 130)) k 9) (mg (mg (mg (sI (mg (mg (mg (sR (mg (sI μ0 k 1 (0)) ini (k + 2) (k + 30)) k 2 (k + 2)) ini (k + 30) (k + 66)) ini (k + 66) (k + 72)) ini (k + 72) (k + 78)) k 6 (0)) ini (k + 78) (k + 84)) ini (k + 84) (k + 123)) ini (k + 123) (k + 130)) hZ) ⟨rfl, rfl, by decide, by decide⟩ (Nat.le_of_ble_eq_true rfl) ⟨by decide, by decide⟩ dX10_init_105 (fun H locs hPn hPo hS hsz => ?_)
  have hP := fP_mg (by omega) hPo hPn
  have hP : fP (wz w k (k + 134) (zm (zs (zm (zs (zm (zs (zm (zs (zm (zs (zm (zs (zm (zs (zm (zs z k 0) (k + 2) (k + 30)) k 2) (k + 30) (k + 66)) k 3) (k + 66) (k + 72)) k 4) (k + 72) (k + 78)) k 5) (k + 78) (k + 84)) k 7) (k + 84) (k + 123)) k 8) (k + 123) (k + 130)) k 9) (k + 130) (k + 134))) (mg (mg (mg (mg (sI (mg (mg (mg (sR (mg (sI μ0 k 1 (0)) ini (k + 2) (k + 30)) k 2 (k + 2)) ini (k + 30) (k + 66)) ini (k + 66) (k + 72)) ini (k + 72) (k + 78)) k 6 (0)) ini (k + 78) (k + 84)) ini (k + 84) (k + 123)) ini (k + 123) (k + 130)) ini (k + 130) (k + 134)) H := hP
  have hsz : H.size = w.2.2.1 (k + 134) := hsz
  have hZ : Z0 (k + 134) (mg (mg (mg (mg (sI (mg (mg (mg (sR (mg (sI μ0 k 1 (0)) ini (k + 2) (k + 30)) k 2 (k + 2)) ini (k + 30) (k + 66)) ini (k + 66) (k + 72)) ini (k + 72) (k + 78)) k 6 (0)) ini (k + 78) (k + 84)) ini (k + 84) (k + 123)) ini (k + 123) (k + 130)) ini (k + 130) (k + 134)) (zm (zs (zm (zs (zm (zs (zm (zs (zm (zs (zm (zs (zm (zs (zm (zs z k 0) (k + 2) (k + 30)) k 2) (k + 30) (k + 66)) k 3) (k + 66) (k + 72)) k 4) (k + 72) (k + 78)) k 5) (k + 78) (k + 84)) k 7) (k + 84) (k + 123)) k 8) (k + 123) (k + 130)) k 9) (k + 130) (k + 134)) := (hZ.mono (by omega)).mg (Nat.le_refl _)
  refine a_p3 C hP hS (hA (by omega)) (by omega) (v := k + 130) ⟨Nat.le_refl _, by omega⟩ hk ff_X10_67 rfl rfl (fun _ => ⟨rfl, rfl⟩) rfl dX10_init_108 (fun H locs hP hS hs9 => ?_)
  rw [hsz] at hs9
  have hsz := hs9
  have hZ : Z0 (k + 134) (mg (mg (mg (mg (sI (mg (mg (mg (sR (mg (sI μ0 k 1 (0)) ini (k + 2) (k + 30)) k 2 (k + 2)) ini (k + 30) (k + 66)) ini (k + 66) (k + 72)) ini (k + 72) (k + 78)) k 6 (0)) ini (k + 78) (k + 84)) ini (k + 84) (k + 123)) ini (k + 123) (k + 130)) ini (k + 130) (k + 134)) (zs (zm (zs (zm (zs (zm (zs (zm (zs (zm (zs (zm (zs (zm (zs (zm (zs z k 0) (k + 2) (k + 30)) k 2) (k + 30) (k + 66)) k 3) (k + 66) (k + 72)) k 4) (k + 72) (k + 78)) k 5) (k + 78) (k + 84)) k 7) (k + 84) (k + 123)) k 8) (k + 123) (k + 130)) k 9) (k + 130) (k + 134)) k 10) := hZ.zs (by omega)
  refine lv_aload_n hx hb dX10_init_111 rfl (lv_at hl 0 rfl) ?_
  refine a_new C hP hS hsz (by omega) (kd_X10_134 hk) rfl nl_X10_71 (hZ (k + 134) (Nat.le_refl _)).1 (hZ (k + 134) (Nat.le_refl _)).2.1 (hZ (k + 134) (Nat.le_refl _)).2.2 (by decide) (by decide) dX10_init_112 (fun H hP hS hsz _ => ?_)
  have hP : fP (wz w k (k + 134 + 1) (zs (zm (zs (zm (zs (zm (zs (zm (zs (zm (zs (zm (zs (zm (zs (zm (zs z k 0) (k + 2) (k + 30)) k 2) (k + 30) (k + 66)) k 3) (k + 66) (k + 72)) k 4) (k + 72) (k + 78)) k 5) (k + 78) (k + 84)) k 7) (k + 84) (k + 123)) k 8) (k + 123) (k + 130)) k 9) (k + 130) (k + 134)) k 10)) (mg (mg (mg (mg (sI (mg (mg (mg (sR (mg (sI μ0 k 1 (0)) ini (k + 2) (k + 30)) k 2 (k + 2)) ini (k + 30) (k + 66)) ini (k + 66) (k + 72)) ini (k + 72) (k + 78)) k 6 (0)) ini (k + 78) (k + 84)) ini (k + 84) (k + 123)) ini (k + 123) (k + 130)) ini (k + 130) (k + 134)) H := hP
  have hsz : H.size = w.2.2.1 (k + 134 + 1) := hsz
  refine lv_dup hx hb dX10_init_115 rfl ?_
  refine a_init (rest := [.ref (w.2.2.1 (k + 134)), .ref (w.2.2.1 k)]) C hl hP (by omega) (by omega) hS (fun q h => hAD.up (by omega) (by omega) h) (fun q h => hAD.up0 (by omega) h) hsz il_X10_73 (k_X1 l w hAD (k + 134) (kd_X10_134 hk) (zs (zm (zs (zm (zs (zm (zs (zm (zs (zm (zs (zm (zs (zm (zs (zm (zs z k 0) (k + 2) (k + 30)) k 2) (k + 30) (k + 66)) k 3) (k + 66) (k + 72)) k 4) (k + 72) (k + 78)) k 5) (k + 78) (k + 84)) k 7) (k + 84) (k + 123)) k 8) (k + 123) (k + 130)) k 9) (k + 130) (k + 134)) k 10) (mg (mg (mg (mg (sI (mg (mg (mg (sR (mg (sI μ0 k 1 (0)) ini (k + 2) (k + 30)) k 2 (k + 2)) ini (k + 30) (k + 66)) ini (k + 66) (k + 72)) ini (k + 72) (k + 78)) k 6 (0)) ini (k + 78) (k + 84)) ini (k + 84) (k + 123)) ini (k + 123) (k + 130)) ini (k + 130) (k + 134)) hZ) ⟨rfl, rfl, by decide, by decide⟩ (Nat.le_of_ble_eq_true rfl) ⟨by decide, by decide⟩ dX10_init_116 (fun H locs hPn hPo hS hsz => ?_)
  have hP := fP_mg (by omega) hPo hPn
  have hP : fP (wz w k (k + 175) (zm (zs (zm (zs (zm (zs (zm (zs (zm (zs (zm (zs (zm (zs (zm (zs (zm (zs z k 0) (k + 2) (k + 30)) k 2) (k + 30) (k + 66)) k 3) (k + 66) (k + 72)) k 4) (k + 72) (k + 78)) k 5) (k + 78) (k + 84)) k 7) (k + 84) (k + 123)) k 8) (k + 123) (k + 130)) k 9) (k + 130) (k + 134)) k 10) (k + 134) (k + 175))) (mg (mg (mg (mg (mg (sI (mg (mg (mg (sR (mg (sI μ0 k 1 (0)) ini (k + 2) (k + 30)) k 2 (k + 2)) ini (k + 30) (k + 66)) ini (k + 66) (k + 72)) ini (k + 72) (k + 78)) k 6 (0)) ini (k + 78) (k + 84)) ini (k + 84) (k + 123)) ini (k + 123) (k + 130)) ini (k + 130) (k + 134)) ini (k + 134) (k + 175)) H := hP
  have hsz : H.size = w.2.2.1 (k + 175) := hsz
  have hZ : Z0 (k + 175) (mg (mg (mg (mg (mg (sI (mg (mg (mg (sR (mg (sI μ0 k 1 (0)) ini (k + 2) (k + 30)) k 2 (k + 2)) ini (k + 30) (k + 66)) ini (k + 66) (k + 72)) ini (k + 72) (k + 78)) k 6 (0)) ini (k + 78) (k + 84)) ini (k + 84) (k + 123)) ini (k + 123) (k + 130)) ini (k + 130) (k + 134)) ini (k + 134) (k + 175)) (zm (zs (zm (zs (zm (zs (zm (zs (zm (zs (zm (zs (zm (zs (zm (zs (zm (zs z k 0) (k + 2) (k + 30)) k 2) (k + 30) (k + 66)) k 3) (k + 66) (k + 72)) k 4) (k + 72) (k + 78)) k 5) (k + 78) (k + 84)) k 7) (k + 84) (k + 123)) k 8) (k + 123) (k + 130)) k 9) (k + 130) (k + 134)) k 10) (k + 134) (k + 175)) := (hZ.mono (by omega)).mg (Nat.le_refl _)
  refine a_p3 C hP hS (hA (by omega)) (by omega) (v := k + 134) ⟨Nat.le_refl _, by omega⟩ hk ff_X10_74 rfl rfl (fun _ => ⟨rfl, rfl⟩) rfl dX10_init_119 (fun H locs hP hS hs9 => ?_)
  rw [hsz] at hs9
  have hsz := hs9
  have hZ : Z0 (k + 175) (mg (mg (mg (mg (mg (sI (mg (mg (mg (sR (mg (sI μ0 k 1 (0)) ini (k + 2) (k + 30)) k 2 (k + 2)) ini (k + 30) (k + 66)) ini (k + 66) (k + 72)) ini (k + 72) (k + 78)) k 6 (0)) ini (k + 78) (k + 84)) ini (k + 84) (k + 123)) ini (k + 123) (k + 130)) ini (k + 130) (k + 134)) ini (k + 134) (k + 175)) (zs (zm (zs (zm (zs (zm (zs (zm (zs (zm (zs (zm (zs (zm (zs (zm (zs (zm (zs z k 0) (k + 2) (k + 30)) k 2) (k + 30) (k + 66)) k 3) (k + 66) (k + 72)) k 4) (k + 72) (k + 78)) k 5) (k + 78) (k + 84)) k 7) (k + 84) (k + 123)) k 8) (k + 123) (k + 130)) k 9) (k + 130) (k + 134)) k 10) (k + 134) (k + 175)) k 11) := hZ.zs (by omega)
  refine lv_aload_n hx hb dX10_init_122 rfl (lv_at hl 0 rfl) ?_
  refine a_new C hP hS hsz (by omega) (kd_X10_175 hk) rfl nl_X10_78 (hZ (k + 175) (Nat.le_refl _)).1 (hZ (k + 175) (Nat.le_refl _)).2.1 (hZ (k + 175) (Nat.le_refl _)).2.2 (by decide) (by decide) dX10_init_123 (fun H hP hS hsz _ => ?_)
  have hP : fP (wz w k (k + 175 + 1) (zs (zm (zs (zm (zs (zm (zs (zm (zs (zm (zs (zm (zs (zm (zs (zm (zs (zm (zs z k 0) (k + 2) (k + 30)) k 2) (k + 30) (k + 66)) k 3) (k + 66) (k + 72)) k 4) (k + 72) (k + 78)) k 5) (k + 78) (k + 84)) k 7) (k + 84) (k + 123)) k 8) (k + 123) (k + 130)) k 9) (k + 130) (k + 134)) k 10) (k + 134) (k + 175)) k 11)) (mg (mg (mg (mg (mg (sI (mg (mg (mg (sR (mg (sI μ0 k 1 (0)) ini (k + 2) (k + 30)) k 2 (k + 2)) ini (k + 30) (k + 66)) ini (k + 66) (k + 72)) ini (k + 72) (k + 78)) k 6 (0)) ini (k + 78) (k + 84)) ini (k + 84) (k + 123)) ini (k + 123) (k + 130)) ini (k + 130) (k + 134)) ini (k + 134) (k + 175)) H := hP
  have hsz : H.size = w.2.2.1 (k + 175 + 1) := hsz
  refine lv_dup hx hb dX10_init_126 rfl ?_
  refine a_init (rest := [.ref (w.2.2.1 (k + 175)), .ref (w.2.2.1 k)]) C hl hP (by omega) (by omega) hS (fun q h => hAD.up (by omega) (by omega) h) (fun q h => hAD.up0 (by omega) h) hsz il_X10_80 (k_X6 l w hAD (k + 175) (kd_X10_175 hk) (zs (zm (zs (zm (zs (zm (zs (zm (zs (zm (zs (zm (zs (zm (zs (zm (zs (zm (zs z k 0) (k + 2) (k + 30)) k 2) (k + 30) (k + 66)) k 3) (k + 66) (k + 72)) k 4) (k + 72) (k + 78)) k 5) (k + 78) (k + 84)) k 7) (k + 84) (k + 123)) k 8) (k + 123) (k + 130)) k 9) (k + 130) (k + 134)) k 10) (k + 134) (k + 175)) k 11) (mg (mg (mg (mg (mg (sI (mg (mg (mg (sR (mg (sI μ0 k 1 (0)) ini (k + 2) (k + 30)) k 2 (k + 2)) ini (k + 30) (k + 66)) ini (k + 66) (k + 72)) ini (k + 72) (k + 78)) k 6 (0)) ini (k + 78) (k + 84)) ini (k + 84) (k + 123)) ini (k + 123) (k + 130)) ini (k + 130) (k + 134)) ini (k + 134) (k + 175)) hZ) ⟨rfl, rfl, by decide, by decide⟩ (Nat.le_of_ble_eq_true rfl) ⟨by decide, by decide⟩ dX10_init_127 (fun H locs hPn hPo hS hsz => ?_)
  have hP := fP_mg (by omega) hPo hPn
  have hP : fP (wz w k (k + 181) (zm (zs (zm (zs (zm (zs (zm (zs (zm (zs (zm (zs (zm (zs (zm (zs (zm (zs (zm (zs z k 0) (k + 2) (k + 30)) k 2) (k + 30) (k + 66)) k 3) (k + 66) (k + 72)) k 4) (k + 72) (k + 78)) k 5) (k + 78) (k + 84)) k 7) (k + 84) (k + 123)) k 8) (k + 123) (k + 130)) k 9) (k + 130) (k + 134)) k 10) (k + 134) (k + 175)) k 11) (k + 175) (k + 181))) (mg (mg (mg (mg (mg (mg (sI (mg (mg (mg (sR (mg (sI μ0 k 1 (0)) ini (k + 2) (k + 30)) k 2 (k + 2)) ini (k + 30) (k + 66)) ini (k + 66) (k + 72)) ini (k + 72) (k + 78)) k 6 (0)) ini (k + 78) (k + 84)) ini (k + 84) (k + 123)) ini (k + 123) (k + 130)) ini (k + 130) (k + 134)) ini (k + 134) (k + 175)) ini (k + 175) (k + 181)) H := hP
  have hsz : H.size = w.2.2.1 (k + 181) := hsz
  have hZ : Z0 (k + 181) (mg (mg (mg (mg (mg (mg (sI (mg (mg (mg (sR (mg (sI μ0 k 1 (0)) ini (k + 2) (k + 30)) k 2 (k + 2)) ini (k + 30) (k + 66)) ini (k + 66) (k + 72)) ini (k + 72) (k + 78)) k 6 (0)) ini (k + 78) (k + 84)) ini (k + 84) (k + 123)) ini (k + 123) (k + 130)) ini (k + 130) (k + 134)) ini (k + 134) (k + 175)) ini (k + 175) (k + 181)) (zm (zs (zm (zs (zm (zs (zm (zs (zm (zs (zm (zs (zm (zs (zm (zs (zm (zs (zm (zs z k 0) (k + 2) (k + 30)) k 2) (k + 30) (k + 66)) k 3) (k + 66) (k + 72)) k 4) (k + 72) (k + 78)) k 5) (k + 78) (k + 84)) k 7) (k + 84) (k + 123)) k 8) (k + 123) (k + 130)) k 9) (k + 130) (k + 134)) k 10) (k + 134) (k + 175)) k 11) (k + 175) (k + 181)) := (hZ.mono (by omega)).mg (Nat.le_refl _)
  refine a_p3 C hP hS (hA (by omega)) (by omega) (v := k + 175) ⟨Nat.le_refl _, by omega⟩ hk ff_X10_81 rfl rfl (fun _ => ⟨rfl, rfl⟩) rfl dX10_init_130 (fun H locs hP hS hs9 => ?_)
  rw [hsz] at hs9
  have hsz := hs9
  have hZ : Z0 (k + 181) (mg (mg (mg (mg (mg (mg (sI (mg (mg (mg (sR (mg (sI μ0 k 1 (0)) ini (k + 2) (k + 30)) k 2 (k + 2)) ini (k + 30) (k + 66)) ini (k + 66) (k + 72)) ini (k + 72) (k + 78)) k 6 (0)) ini (k + 78) (k + 84)) ini (k + 84) (k + 123)) ini (k + 123) (k + 130)) ini (k + 130) (k + 134)) ini (k + 134) (k + 175)) ini (k + 175) (k + 181)) (zs (zm (zs (zm (zs (zm (zs (zm (zs (zm (zs (zm (zs (zm (zs (zm (zs (zm (zs (zm (zs z k 0) (k + 2) (k + 30)) k 2) (k + 30) (k + 66)) k 3) (k + 66) (k + 72)) k 4) (k + 72) (k + 78)) k 5) (k + 78) (k + 84)) k 7) (k + 84) (k + 123)) k 8) (k + 123) (k + 130)) k 9) (k + 130) (k + 134)) k 10) (k + 134) (k + 175)) k 11) (k + 175) (k + 181)) k 12) := hZ.zs (by omega)
  have hP : fP (wz w k (k + 181) (zm z k (k + 181))) (mg μ0 ini k (k + 181)) H := fP_congr (by omega) hP (fin_X10 hk h0)
  exact a_ret C hr hP hS hsz dX10_init_133
theorem kd_X11_1 {k : Nat} (h : kd k = (4, 11)) : kd (k + 1) = (0, 700) := by have e := ko_11 h; subst e <;> decide +kernel
theorem kd_X11_2 {k : Nat} (h : kd k = (4, 11)) : kd (k + 2) = (0, 14) := by have e := ko_11 h; subst e <;> decide +kernel
theorem kd_X11_3 {k : Nat} (h : kd k = (4, 11)) : kd (k + 3) = (0, 12) := by have e := ko_11 h; subst e <;> decide +kernel
theorem kd_X11_4 {k : Nat} (h : kd k = (4, 11)) : kd (k + 4) = (0, 18) := by have e := ko_11 h; subst e <;> decide +kernel
theorem kd_X11_5 {k : Nat} (h : kd k = (4, 11)) : kd (k + 5) = (0, 18) := by have e := ko_11 h; subst e <;> decide +kernel
theorem kd_X11_6 {k : Nat} (h : kd k = (4, 11)) : kd (k + 6) = (0, 16) := by have e := ko_11 h; subst e <;> decide +kernel
theorem kd_X11_7 {k : Nat} (h : kd k = (4, 11)) : kd (k + 7) = (0, 16) := by have e := ko_11 h; subst e <;> decide +kernel
theorem kd_X11_8 {k : Nat} (h : kd k = (4, 11)) : kd (k + 8) = (0, 16) := by have e := ko_11 h; subst e <;> decide +kernel
theorem kd_X11_9 {k : Nat} (h : kd k = (4, 11)) : kd (k + 9) = (0, 16) := by have e := ko_11 h; subst e <;> decide +kernel
theorem kd_X11_10 {k : Nat} (h : kd k = (4, 11)) : kd (k + 10) = (0, 12) := by have e := ko_11 h; subst e <;> decide +kernel
theorem kd_X11_11 {k : Nat} (h : kd k = (4, 11)) : kd (k + 11) = (0, 12) := by have e := ko_11 h; subst e <;> decide +kernel
theorem kd_X11_12 {k : Nat} (h : kd k = (4, 11)) : kd (k + 12) = (0, 12) := by have e := ko_11 h; subst e <;> decide +kernel
theorem kd_X11_13 {k : Nat} (h : kd k = (4, 11)) : kd (k + 13) = (0, 12) := by have e := ko_11 h; subst e <;> decide +kernel
theorem kd_X11_14 {k : Nat} (h : kd k = (4, 11)) : kd (k + 14) = (0, 12) := by have e := ko_11 h; subst e <;> decide +kernel
theorem kd_X11_15 {k : Nat} (h : kd k = (4, 11)) : kd (k + 15) = (0, 18) := by have e := ko_11 h; subst e <;> decide +kernel
theorem kd_X11_16 {k : Nat} (h : kd k = (4, 11)) : kd (k + 16) = (0, 6) := by have e := ko_11 h; subst e <;> decide +kernel
theorem kd_X11_17 {k : Nat} (h : kd k = (4, 11)) : kd (k + 17) = (0, 6) := by have e := ko_11 h; subst e <;> decide +kernel
theorem kd_X11_18 {k : Nat} (h : kd k = (4, 11)) : kd (k + 18) = (0, 128) := by have e := ko_11 h; subst e <;> decide +kernel
theorem kd_X11_19 {k : Nat} (h : kd k = (4, 11)) : kd (k + 19) = (0, 128) := by have e := ko_11 h; subst e <;> decide +kernel
theorem kd_X11_20 {k : Nat} (h : kd k = (4, 11)) : kd (k + 20) = (2, 7) := by have e := ko_11 h; subst e <;> decide +kernel
theorem kd_X11_21 {k : Nat} (h : kd k = (4, 11)) : kd (k + 21) = (2, 64) := by have e := ko_11 h; subst e <;> decide +kernel
theorem kd_X11_22 {k : Nat} (h : kd k = (4, 11)) : kd (k + 22) = (0, 23) := by have e := ko_11 h; subst e <;> decide +kernel
theorem kd_X11_23 {k : Nat} (h : kd k = (4, 11)) : kd (k + 23) = (0, 23) := by have e := ko_11 h; subst e <;> decide +kernel
theorem kd_X11_24 {k : Nat} (h : kd k = (4, 11)) : kd (k + 24) = (0, 23) := by have e := ko_11 h; subst e <;> decide +kernel
theorem kd_X11_25 {k : Nat} (h : kd k = (4, 11)) : kd (k + 25) = (0, 184) := by have e := ko_11 h; subst e <;> decide +kernel
theorem kd_X11_26 {k : Nat} (h : kd k = (4, 11)) : kd (k + 26) = (0, 184) := by have e := ko_11 h; subst e <;> decide +kernel
theorem kd_X11_27 {k : Nat} (h : kd k = (4, 11)) : kd (k + 27) = (0, 184) := by have e := ko_11 h; subst e <;> decide +kernel
theorem kd_X11_28 {k : Nat} (h : kd k = (4, 11)) : kd (k + 28) = (0, 138) := by have e := ko_11 h; subst e <;> decide +kernel
theorem kd_X11_29 {k : Nat} (h : kd k = (4, 11)) : kd (k + 29) = (0, 138) := by have e := ko_11 h; subst e <;> decide +kernel
theorem kd_X11_30 {k : Nat} (h : kd k = (4, 11)) : kd (k + 30) = (0, 4) := by have e := ko_11 h; subst e <;> decide +kernel
theorem kd_X11_31 {k : Nat} (h : kd k = (4, 11)) : kd (k + 31) = (0, 12) := by have e := ko_11 h; subst e <;> decide +kernel
theorem kd_X11_32 {k : Nat} (h : kd k = (4, 11)) : kd (k + 32) = (0, 6) := by have e := ko_11 h; subst e <;> decide +kernel
theorem kd_X11_33 {k : Nat} (h : kd k = (4, 11)) : kd (k + 33) = (0, 6) := by have e := ko_11 h; subst e <;> decide +kernel
theorem kd_X11_34 {k : Nat} (h : kd k = (4, 11)) : kd (k + 34) = (0, 24) := by have e := ko_11 h; subst e <;> decide +kernel
theorem kd_X11_35 {k : Nat} (h : kd k = (4, 11)) : kd (k + 35) = (0, 24) := by have e := ko_11 h; subst e <;> decide +kernel
theorem kd_X11_36 {k : Nat} (h : kd k = (4, 11)) : kd (k + 36) = (0, 24) := by have e := ko_11 h; subst e <;> decide +kernel
theorem kd_X11_37 {k : Nat} (h : kd k = (4, 11)) : kd (k + 37) = (1, 24) := by have e := ko_11 h; subst e <;> decide +kernel
theorem kd_X11_38 {k : Nat} (h : kd k = (4, 11)) : kd (k + 38) = (0, 24) := by have e := ko_11 h; subst e <;> decide +kernel
theorem kd_X11_39 {k : Nat} (h : kd k = (4, 11)) : kd (k + 39) = (1, 24) := by have e := ko_11 h; subst e <;> decide +kernel
theorem kb_X11 {k : Nat} (h : kd k = (4, 11)) : k + 40 ≤ 221 := by have e := ko_11 h; subst e <;> decide
def ri_X11 : Room := { frames := 2, cells := 39, slots := 2312, locals := 42 }
set_option maxHeartbeats 4000000 in
set_option maxRecDepth 100000 in
theorem fin_X11 {k : Nat} (hk : kd k = (4, 11)) {z : Nat → Nat → Bool} {μ0 : fMem} (h0 : Z0 k μ0 z) : ∀ a, k ≤ a → a < k + 40 → (sI (sI (sI (sI (sI μ0 k 31 (-1)) k 48 (-1)) k 49 (-1)) k 50 (-1)) k 58 (-1)).1 a = (mg μ0 ini k (k + 40)).1 a ∧ (sI (sI (sI (sI (sI μ0 k 31 (-1)) k 48 (-1)) k 49 (-1)) k 50 (-1)) k 58 (-1)).2.1 a = (mg μ0 ini k (k + 40)).2.1 a ∧ ∀ ci, kd a = (4, ci) → ∀ j, j < fN ci → 3 ≤ ft ci j → (zs (zs (zs (zs (zs (zs (zs (zs (zs (zs (zs (zs (zs (zs (zs (zs (zs (zs (zs (zs (zs (zs (zs (zs (zs (zs (zs (zs (zs (zs (zs (zs (zs (zs (zs (zs (zs (zs (zs z k 1) k 3) k 4) k 5) k 6) k 7) k 8) k 9) k 10) k 11) k 12) k 13) k 14) k 15) k 16) k 17) k 18) k 19) k 20) k 34) k 35) k 37) k 38) k 39) k 40) k 41) k 42) k 43) k 44) k 52) k 54) k 55) k 56) k 59) k 60) k 61) k 62) k 63) k 64) a j = zm z k (k + 40) a j ∧ (4 ≤ ft ci j → (sI (sI (sI (sI (sI μ0 k 31 (-1)) k 48 (-1)) k 49 (-1)) k 50 (-1)) k 58 (-1)).2.2 a j = (mg μ0 ini k (k + 40)).2.2 a j) := by
  intro a h1 h2
  have e1 : (mg μ0 ini k (k + 40)).1 a = iniI a := if_pos ⟨h1, h2⟩
  have e2 : (mg μ0 ini k (k + 40)).2.1 a = iniL a := if_pos ⟨h1, h2⟩
  have e3 : (mg μ0 ini k (k + 40)).2.2 a = iniR a := if_pos ⟨h1, h2⟩
  have e4 : ∀ j, zm z k (k + 40) a j = true := fun j => if_pos ⟨h1, h2⟩
  rw [e1, e2, e3]
  rcases (show a = k ∨ a = k + 1 ∨ a = k + 2 ∨ a = k + 3 ∨ a = k + 4 ∨ a = k + 5 ∨ a = k + 6 ∨ a = k + 7 ∨ a = k + 8 ∨ a = k + 9 ∨ a = k + 10 ∨ a = k + 11 ∨ a = k + 12 ∨ a = k + 13 ∨ a = k + 14 ∨ a = k + 15 ∨ a = k + 16 ∨ a = k + 17 ∨ a = k + 18 ∨ a = k + 19 ∨ a = k + 20 ∨ a = k + 21 ∨ a = k + 22 ∨ a = k + 23 ∨ a = k + 24 ∨ a = k + 25 ∨ a = k + 26 ∨ a = k + 27 ∨ a = k + 28 ∨ a = k + 29 ∨ a = k + 30 ∨ a = k + 31 ∨ a = k + 32 ∨ a = k + 33 ∨ a = k + 34 ∨ a = k + 35 ∨ a = k + 36 ∨ a = k + 37 ∨ a = k + 38 ∨ a = k + 39 by omega) with rfl | rfl | rfl | rfl | rfl | rfl | rfl | rfl | rfl | rfl | rfl | rfl | rfl | rfl | rfl | rfl | rfl | rfl | rfl | rfl | rfl | rfl | rfl | rfl | rfl | rfl | rfl | rfl | rfl | rfl | rfl | rfl | rfl | rfl | rfl | rfl | rfl | rfl | rfl | rfl
  · have z1 := (h0 a (Nat.le_refl _)).1
    have z2 := (h0 a (Nat.le_refl _)).2.1
    refine ⟨?_, ?_, fun ci hci j hj h3 => ?_⟩
    · funext j
      simp only [sI, sL, sR, sRow, sRowL, fu, mg, z1]
      have e := ko_11 hk; subst e <;> simp only [iniI] <;> (repeat (first | rfl | split | omega | simp_all))
    · funext j
      simp only [sI, sL, sR, sRow, sRowL, fu, mg, z2]
      have e := ko_11 hk; subst e <;> simp only [iniL] <;> (repeat (first | rfl | split | omega | simp_all))
    · rw [hk] at hci; cases hci
      rw [e4]
      rcases (show j = 0 ∨ j = 1 ∨ j = 2 ∨ j = 3 ∨ j = 4 ∨ j = 5 ∨ j = 6 ∨ j = 7 ∨ j = 8 ∨ j = 9 ∨ j = 10 ∨ j = 11 ∨ j = 12 ∨ j = 13 ∨ j = 14 ∨ j = 15 ∨ j = 16 ∨ j = 17 ∨ j = 18 ∨ j = 19 ∨ j = 20 ∨ j = 21 ∨ j = 22 ∨ j = 23 ∨ j = 24 ∨ j = 25 ∨ j = 26 ∨ j = 27 ∨ j = 28 ∨ j = 29 ∨ j = 30 ∨ j = 31 ∨ j = 32 ∨ j = 33 ∨ j = 34 ∨ j = 35 ∨ j = 36 ∨ j = 37 ∨ j = 38 ∨ j = 39 ∨ j = 40 ∨ j = 41 ∨ j = 42 ∨ j = 43 ∨ j = 44 ∨ j = 45 ∨ j = 46 ∨ j = 47 ∨ j = 48 ∨ j = 49 ∨ j = 50 ∨ j = 51 ∨ j = 52 ∨ j = 53 ∨ j = 54 ∨ j = 55 ∨ j = 56 ∨ j = 57 ∨ j = 58 ∨ j = 59 ∨ j = 60 ∨ j = 61 ∨ j = 62 ∨ j = 63 ∨ j = 64 by simp only [fN] at hj; omega) with rfl | rfl | rfl | rfl | rfl | rfl | rfl | rfl | rfl | rfl | rfl | rfl | rfl | rfl | rfl | rfl | rfl | rfl | rfl | rfl | rfl | rfl | rfl | rfl | rfl | rfl | rfl | rfl | rfl | rfl | rfl | rfl | rfl | rfl | rfl | rfl | rfl | rfl | rfl | rfl | rfl | rfl | rfl | rfl | rfl | rfl | rfl | rfl | rfl | rfl | rfl | rfl | rfl | rfl | rfl | rfl | rfl | rfl | rfl | rfl | rfl | rfl | rfl | rfl | rfl
      all_goals first | exact absurd h3 (by decide) | skip
      all_goals refine ⟨by simp [zs, zm], fun h4 => ?_⟩
      all_goals first | exact absurd h4 (by decide) | skip
      all_goals (simp only [sI, sL, sR, sRow, sRowL, fu, mg]; have e := ko_11 hk; subst e <;> simp [iniR])
  · have z1 := (h0 (k + 1) (by omega)).1
    have z2 := (h0 (k + 1) (by omega)).2.1
    refine ⟨?_, ?_, fun ci hci j hj h3 => ?_⟩
    · funext j
      simp only [sI, sL, sR, sRow, sRowL, fu, mg, z1]
      have e := ko_11 hk; subst e <;> simp [iniI]
    · funext j
      simp only [sI, sL, sR, sRow, sRowL, fu, mg, z2]
      have e := ko_11 hk; subst e <;> simp [iniL]
    · exact (kd_ne4 (kd_X11_1 hk) (by decide) hci).elim
  · have z1 := (h0 (k + 2) (by omega)).1
    have z2 := (h0 (k + 2) (by omega)).2.1
    refine ⟨?_, ?_, fun ci hci j hj h3 => ?_⟩
    · funext j
      simp only [sI, sL, sR, sRow, sRowL, fu, mg, z1]
      have e := ko_11 hk; subst e <;> simp [iniI]
    · funext j
      simp only [sI, sL, sR, sRow, sRowL, fu, mg, z2]
      have e := ko_11 hk; subst e <;> simp [iniL]
    · exact (kd_ne4 (kd_X11_2 hk) (by decide) hci).elim
  · have z1 := (h0 (k + 3) (by omega)).1
    have z2 := (h0 (k + 3) (by omega)).2.1
    refine ⟨?_, ?_, fun ci hci j hj h3 => ?_⟩
    · funext j
      simp only [sI, sL, sR, sRow, sRowL, fu, mg, z1]
      have e := ko_11 hk; subst e <;> simp [iniI]
    · funext j
      simp only [sI, sL, sR, sRow, sRowL, fu, mg, z2]
      have e := ko_11 hk; subst e <;> simp [iniL]
    · exact (kd_ne4 (kd_X11_3 hk) (by decide) hci).elim
  · have z1 := (h0 (k + 4) (by omega)).1
    have z2 := (h0 (k + 4) (by omega)).2.1
    refine ⟨?_, ?_, fun ci hci j hj h3 => ?_⟩
    · funext j
      simp only [sI, sL, sR, sRow, sRowL, fu, mg, z1]
      have e := ko_11 hk; subst e <;> simp [iniI]
    · funext j
      simp only [sI, sL, sR, sRow, sRowL, fu, mg, z2]
      have e := ko_11 hk; subst e <;> simp [iniL]
    · exact (kd_ne4 (kd_X11_4 hk) (by decide) hci).elim
  · have z1 := (h0 (k + 5) (by omega)).1
    have z2 := (h0 (k + 5) (by omega)).2.1
    refine ⟨?_, ?_, fun ci hci j hj h3 => ?_⟩
    · funext j
      simp only [sI, sL, sR, sRow, sRowL, fu, mg, z1]
      have e := ko_11 hk; subst e <;> simp [iniI]
    · funext j
      simp only [sI, sL, sR, sRow, sRowL, fu, mg, z2]
      have e := ko_11 hk; subst e <;> simp [iniL]
    · exact (kd_ne4 (kd_X11_5 hk) (by decide) hci).elim
  · have z1 := (h0 (k + 6) (by omega)).1
    have z2 := (h0 (k + 6) (by omega)).2.1
    refine ⟨?_, ?_, fun ci hci j hj h3 => ?_⟩
    · funext j
      simp only [sI, sL, sR, sRow, sRowL, fu, mg, z1]
      have e := ko_11 hk; subst e <;> simp [iniI]
    · funext j
      simp only [sI, sL, sR, sRow, sRowL, fu, mg, z2]
      have e := ko_11 hk; subst e <;> simp [iniL]
    · exact (kd_ne4 (kd_X11_6 hk) (by decide) hci).elim
  · have z1 := (h0 (k + 7) (by omega)).1
    have z2 := (h0 (k + 7) (by omega)).2.1
    refine ⟨?_, ?_, fun ci hci j hj h3 => ?_⟩
    · funext j
      simp only [sI, sL, sR, sRow, sRowL, fu, mg, z1]
      have e := ko_11 hk; subst e <;> simp [iniI]
    · funext j
      simp only [sI, sL, sR, sRow, sRowL, fu, mg, z2]
      have e := ko_11 hk; subst e <;> simp [iniL]
    · exact (kd_ne4 (kd_X11_7 hk) (by decide) hci).elim
  · have z1 := (h0 (k + 8) (by omega)).1
    have z2 := (h0 (k + 8) (by omega)).2.1
    refine ⟨?_, ?_, fun ci hci j hj h3 => ?_⟩
    · funext j
      simp only [sI, sL, sR, sRow, sRowL, fu, mg, z1]
      have e := ko_11 hk; subst e <;> simp [iniI]
    · funext j
      simp only [sI, sL, sR, sRow, sRowL, fu, mg, z2]
      have e := ko_11 hk; subst e <;> simp [iniL]
    · exact (kd_ne4 (kd_X11_8 hk) (by decide) hci).elim
  · have z1 := (h0 (k + 9) (by omega)).1
    have z2 := (h0 (k + 9) (by omega)).2.1
    refine ⟨?_, ?_, fun ci hci j hj h3 => ?_⟩
    · funext j
      simp only [sI, sL, sR, sRow, sRowL, fu, mg, z1]
      have e := ko_11 hk; subst e <;> simp [iniI]
    · funext j
      simp only [sI, sL, sR, sRow, sRowL, fu, mg, z2]
      have e := ko_11 hk; subst e <;> simp [iniL]
    · exact (kd_ne4 (kd_X11_9 hk) (by decide) hci).elim
  · have z1 := (h0 (k + 10) (by omega)).1
    have z2 := (h0 (k + 10) (by omega)).2.1
    refine ⟨?_, ?_, fun ci hci j hj h3 => ?_⟩
    · funext j
      simp only [sI, sL, sR, sRow, sRowL, fu, mg, z1]
      have e := ko_11 hk; subst e <;> simp [iniI]
    · funext j
      simp only [sI, sL, sR, sRow, sRowL, fu, mg, z2]
      have e := ko_11 hk; subst e <;> simp [iniL]
    · exact (kd_ne4 (kd_X11_10 hk) (by decide) hci).elim
  · have z1 := (h0 (k + 11) (by omega)).1
    have z2 := (h0 (k + 11) (by omega)).2.1
    refine ⟨?_, ?_, fun ci hci j hj h3 => ?_⟩
    · funext j
      simp only [sI, sL, sR, sRow, sRowL, fu, mg, z1]
      have e := ko_11 hk; subst e <;> simp [iniI]
    · funext j
      simp only [sI, sL, sR, sRow, sRowL, fu, mg, z2]
      have e := ko_11 hk; subst e <;> simp [iniL]
    · exact (kd_ne4 (kd_X11_11 hk) (by decide) hci).elim
  · have z1 := (h0 (k + 12) (by omega)).1
    have z2 := (h0 (k + 12) (by omega)).2.1
    refine ⟨?_, ?_, fun ci hci j hj h3 => ?_⟩
    · funext j
      simp only [sI, sL, sR, sRow, sRowL, fu, mg, z1]
      have e := ko_11 hk; subst e <;> simp [iniI]
    · funext j
      simp only [sI, sL, sR, sRow, sRowL, fu, mg, z2]
      have e := ko_11 hk; subst e <;> simp [iniL]
    · exact (kd_ne4 (kd_X11_12 hk) (by decide) hci).elim
  · have z1 := (h0 (k + 13) (by omega)).1
    have z2 := (h0 (k + 13) (by omega)).2.1
    refine ⟨?_, ?_, fun ci hci j hj h3 => ?_⟩
    · funext j
      simp only [sI, sL, sR, sRow, sRowL, fu, mg, z1]
      have e := ko_11 hk; subst e <;> simp [iniI]
    · funext j
      simp only [sI, sL, sR, sRow, sRowL, fu, mg, z2]
      have e := ko_11 hk; subst e <;> simp [iniL]
    · exact (kd_ne4 (kd_X11_13 hk) (by decide) hci).elim
  · have z1 := (h0 (k + 14) (by omega)).1
    have z2 := (h0 (k + 14) (by omega)).2.1
    refine ⟨?_, ?_, fun ci hci j hj h3 => ?_⟩
    · funext j
      simp only [sI, sL, sR, sRow, sRowL, fu, mg, z1]
      have e := ko_11 hk; subst e <;> simp [iniI]
    · funext j
      simp only [sI, sL, sR, sRow, sRowL, fu, mg, z2]
      have e := ko_11 hk; subst e <;> simp [iniL]
    · exact (kd_ne4 (kd_X11_14 hk) (by decide) hci).elim
  · have z1 := (h0 (k + 15) (by omega)).1
    have z2 := (h0 (k + 15) (by omega)).2.1
    refine ⟨?_, ?_, fun ci hci j hj h3 => ?_⟩
    · funext j
      simp only [sI, sL, sR, sRow, sRowL, fu, mg, z1]
      have e := ko_11 hk; subst e <;> simp [iniI]
    · funext j
      simp only [sI, sL, sR, sRow, sRowL, fu, mg, z2]
      have e := ko_11 hk; subst e <;> simp [iniL]
    · exact (kd_ne4 (kd_X11_15 hk) (by decide) hci).elim
  · have z1 := (h0 (k + 16) (by omega)).1
    have z2 := (h0 (k + 16) (by omega)).2.1
    refine ⟨?_, ?_, fun ci hci j hj h3 => ?_⟩
    · funext j
      simp only [sI, sL, sR, sRow, sRowL, fu, mg, z1]
      have e := ko_11 hk; subst e <;> simp [iniI]
    · funext j
      simp only [sI, sL, sR, sRow, sRowL, fu, mg, z2]
      have e := ko_11 hk; subst e <;> simp [iniL]
    · exact (kd_ne4 (kd_X11_16 hk) (by decide) hci).elim
  · have z1 := (h0 (k + 17) (by omega)).1
    have z2 := (h0 (k + 17) (by omega)).2.1
    refine ⟨?_, ?_, fun ci hci j hj h3 => ?_⟩
    · funext j
      simp only [sI, sL, sR, sRow, sRowL, fu, mg, z1]
      have e := ko_11 hk; subst e <;> simp [iniI]
    · funext j
      simp only [sI, sL, sR, sRow, sRowL, fu, mg, z2]
      have e := ko_11 hk; subst e <;> simp [iniL]
    · exact (kd_ne4 (kd_X11_17 hk) (by decide) hci).elim
  · have z1 := (h0 (k + 18) (by omega)).1
    have z2 := (h0 (k + 18) (by omega)).2.1
    refine ⟨?_, ?_, fun ci hci j hj h3 => ?_⟩
    · funext j
      simp only [sI, sL, sR, sRow, sRowL, fu, mg, z1]
      have e := ko_11 hk; subst e <;> simp [iniI]
    · funext j
      simp only [sI, sL, sR, sRow, sRowL, fu, mg, z2]
      have e := ko_11 hk; subst e <;> simp [iniL]
    · exact (kd_ne4 (kd_X11_18 hk) (by decide) hci).elim
  · have z1 := (h0 (k + 19) (by omega)).1
    have z2 := (h0 (k + 19) (by omega)).2.1
    refine ⟨?_, ?_, fun ci hci j hj h3 => ?_⟩
    · funext j
      simp only [sI, sL, sR, sRow, sRowL, fu, mg, z1]
      have e := ko_11 hk; subst e <;> simp [iniI]
    · funext j
      simp only [sI, sL, sR, sRow, sRowL, fu, mg, z2]
      have e := ko_11 hk; subst e <;> simp [iniL]
    · exact (kd_ne4 (kd_X11_19 hk) (by decide) hci).elim
  · have z1 := (h0 (k + 20) (by omega)).1
    have z2 := (h0 (k + 20) (by omega)).2.1
    refine ⟨?_, ?_, fun ci hci j hj h3 => ?_⟩
    · funext j
      simp only [sI, sL, sR, sRow, sRowL, fu, mg, z1]
      have e := ko_11 hk; subst e <;> simp [iniI]
    · funext j
      simp only [sI, sL, sR, sRow, sRowL, fu, mg, z2]
      have e := ko_11 hk; subst e <;> simp [iniL]
    · exact (kd_ne4 (kd_X11_20 hk) (by decide) hci).elim
  · have z1 := (h0 (k + 21) (by omega)).1
    have z2 := (h0 (k + 21) (by omega)).2.1
    refine ⟨?_, ?_, fun ci hci j hj h3 => ?_⟩
    · funext j
      simp only [sI, sL, sR, sRow, sRowL, fu, mg, z1]
      have e := ko_11 hk; subst e <;> simp [iniI]
    · funext j
      simp only [sI, sL, sR, sRow, sRowL, fu, mg, z2]
      have e := ko_11 hk; subst e <;> simp [iniL]
    · exact (kd_ne4 (kd_X11_21 hk) (by decide) hci).elim
  · have z1 := (h0 (k + 22) (by omega)).1
    have z2 := (h0 (k + 22) (by omega)).2.1
    refine ⟨?_, ?_, fun ci hci j hj h3 => ?_⟩
    · funext j
      simp only [sI, sL, sR, sRow, sRowL, fu, mg, z1]
      have e := ko_11 hk; subst e <;> simp [iniI]
    · funext j
      simp only [sI, sL, sR, sRow, sRowL, fu, mg, z2]
      have e := ko_11 hk; subst e <;> simp [iniL]
    · exact (kd_ne4 (kd_X11_22 hk) (by decide) hci).elim
  · have z1 := (h0 (k + 23) (by omega)).1
    have z2 := (h0 (k + 23) (by omega)).2.1
    refine ⟨?_, ?_, fun ci hci j hj h3 => ?_⟩
    · funext j
      simp only [sI, sL, sR, sRow, sRowL, fu, mg, z1]
      have e := ko_11 hk; subst e <;> simp [iniI]
    · funext j
      simp only [sI, sL, sR, sRow, sRowL, fu, mg, z2]
      have e := ko_11 hk; subst e <;> simp [iniL]
    · exact (kd_ne4 (kd_X11_23 hk) (by decide) hci).elim
  · have z1 := (h0 (k + 24) (by omega)).1
    have z2 := (h0 (k + 24) (by omega)).2.1
    refine ⟨?_, ?_, fun ci hci j hj h3 => ?_⟩
    · funext j
      simp only [sI, sL, sR, sRow, sRowL, fu, mg, z1]
      have e := ko_11 hk; subst e <;> simp [iniI]
    · funext j
      simp only [sI, sL, sR, sRow, sRowL, fu, mg, z2]
      have e := ko_11 hk; subst e <;> simp [iniL]
    · exact (kd_ne4 (kd_X11_24 hk) (by decide) hci).elim
  · have z1 := (h0 (k + 25) (by omega)).1
    have z2 := (h0 (k + 25) (by omega)).2.1
    refine ⟨?_, ?_, fun ci hci j hj h3 => ?_⟩
    · funext j
      simp only [sI, sL, sR, sRow, sRowL, fu, mg, z1]
      have e := ko_11 hk; subst e <;> simp [iniI]
    · funext j
      simp only [sI, sL, sR, sRow, sRowL, fu, mg, z2]
      have e := ko_11 hk; subst e <;> simp [iniL]
    · exact (kd_ne4 (kd_X11_25 hk) (by decide) hci).elim
  · have z1 := (h0 (k + 26) (by omega)).1
    have z2 := (h0 (k + 26) (by omega)).2.1
    refine ⟨?_, ?_, fun ci hci j hj h3 => ?_⟩
    · funext j
      simp only [sI, sL, sR, sRow, sRowL, fu, mg, z1]
      have e := ko_11 hk; subst e <;> simp [iniI]
    · funext j
      simp only [sI, sL, sR, sRow, sRowL, fu, mg, z2]
      have e := ko_11 hk; subst e <;> simp [iniL]
    · exact (kd_ne4 (kd_X11_26 hk) (by decide) hci).elim
  · have z1 := (h0 (k + 27) (by omega)).1
    have z2 := (h0 (k + 27) (by omega)).2.1
    refine ⟨?_, ?_, fun ci hci j hj h3 => ?_⟩
    · funext j
      simp only [sI, sL, sR, sRow, sRowL, fu, mg, z1]
      have e := ko_11 hk; subst e <;> simp [iniI]
    · funext j
      simp only [sI, sL, sR, sRow, sRowL, fu, mg, z2]
      have e := ko_11 hk; subst e <;> simp [iniL]
    · exact (kd_ne4 (kd_X11_27 hk) (by decide) hci).elim
  · have z1 := (h0 (k + 28) (by omega)).1
    have z2 := (h0 (k + 28) (by omega)).2.1
    refine ⟨?_, ?_, fun ci hci j hj h3 => ?_⟩
    · funext j
      simp only [sI, sL, sR, sRow, sRowL, fu, mg, z1]
      have e := ko_11 hk; subst e <;> simp [iniI]
    · funext j
      simp only [sI, sL, sR, sRow, sRowL, fu, mg, z2]
      have e := ko_11 hk; subst e <;> simp [iniL]
    · exact (kd_ne4 (kd_X11_28 hk) (by decide) hci).elim
  · have z1 := (h0 (k + 29) (by omega)).1
    have z2 := (h0 (k + 29) (by omega)).2.1
    refine ⟨?_, ?_, fun ci hci j hj h3 => ?_⟩
    · funext j
      simp only [sI, sL, sR, sRow, sRowL, fu, mg, z1]
      have e := ko_11 hk; subst e <;> simp [iniI]
    · funext j
      simp only [sI, sL, sR, sRow, sRowL, fu, mg, z2]
      have e := ko_11 hk; subst e <;> simp [iniL]
    · exact (kd_ne4 (kd_X11_29 hk) (by decide) hci).elim
  · have z1 := (h0 (k + 30) (by omega)).1
    have z2 := (h0 (k + 30) (by omega)).2.1
    refine ⟨?_, ?_, fun ci hci j hj h3 => ?_⟩
    · funext j
      simp only [sI, sL, sR, sRow, sRowL, fu, mg, z1]
      have e := ko_11 hk; subst e <;> simp [iniI]
    · funext j
      simp only [sI, sL, sR, sRow, sRowL, fu, mg, z2]
      have e := ko_11 hk; subst e <;> simp [iniL]
    · exact (kd_ne4 (kd_X11_30 hk) (by decide) hci).elim
  · have z1 := (h0 (k + 31) (by omega)).1
    have z2 := (h0 (k + 31) (by omega)).2.1
    refine ⟨?_, ?_, fun ci hci j hj h3 => ?_⟩
    · funext j
      simp only [sI, sL, sR, sRow, sRowL, fu, mg, z1]
      have e := ko_11 hk; subst e <;> simp [iniI]
    · funext j
      simp only [sI, sL, sR, sRow, sRowL, fu, mg, z2]
      have e := ko_11 hk; subst e <;> simp [iniL]
    · exact (kd_ne4 (kd_X11_31 hk) (by decide) hci).elim
  · have z1 := (h0 (k + 32) (by omega)).1
    have z2 := (h0 (k + 32) (by omega)).2.1
    refine ⟨?_, ?_, fun ci hci j hj h3 => ?_⟩
    · funext j
      simp only [sI, sL, sR, sRow, sRowL, fu, mg, z1]
      have e := ko_11 hk; subst e <;> simp [iniI]
    · funext j
      simp only [sI, sL, sR, sRow, sRowL, fu, mg, z2]
      have e := ko_11 hk; subst e <;> simp [iniL]
    · exact (kd_ne4 (kd_X11_32 hk) (by decide) hci).elim
  · have z1 := (h0 (k + 33) (by omega)).1
    have z2 := (h0 (k + 33) (by omega)).2.1
    refine ⟨?_, ?_, fun ci hci j hj h3 => ?_⟩
    · funext j
      simp only [sI, sL, sR, sRow, sRowL, fu, mg, z1]
      have e := ko_11 hk; subst e <;> simp [iniI]
    · funext j
      simp only [sI, sL, sR, sRow, sRowL, fu, mg, z2]
      have e := ko_11 hk; subst e <;> simp [iniL]
    · exact (kd_ne4 (kd_X11_33 hk) (by decide) hci).elim
  · have z1 := (h0 (k + 34) (by omega)).1
    have z2 := (h0 (k + 34) (by omega)).2.1
    refine ⟨?_, ?_, fun ci hci j hj h3 => ?_⟩
    · funext j
      simp only [sI, sL, sR, sRow, sRowL, fu, mg, z1]
      have e := ko_11 hk; subst e <;> simp [iniI]
    · funext j
      simp only [sI, sL, sR, sRow, sRowL, fu, mg, z2]
      have e := ko_11 hk; subst e <;> simp [iniL]
    · exact (kd_ne4 (kd_X11_34 hk) (by decide) hci).elim
  · have z1 := (h0 (k + 35) (by omega)).1
    have z2 := (h0 (k + 35) (by omega)).2.1
    refine ⟨?_, ?_, fun ci hci j hj h3 => ?_⟩
    · funext j
      simp only [sI, sL, sR, sRow, sRowL, fu, mg, z1]
      have e := ko_11 hk; subst e <;> simp [iniI]
    · funext j
      simp only [sI, sL, sR, sRow, sRowL, fu, mg, z2]
      have e := ko_11 hk; subst e <;> simp [iniL]
    · exact (kd_ne4 (kd_X11_35 hk) (by decide) hci).elim
  · have z1 := (h0 (k + 36) (by omega)).1
    have z2 := (h0 (k + 36) (by omega)).2.1
    refine ⟨?_, ?_, fun ci hci j hj h3 => ?_⟩
    · funext j
      simp only [sI, sL, sR, sRow, sRowL, fu, mg, z1]
      have e := ko_11 hk; subst e <;> simp [iniI]
    · funext j
      simp only [sI, sL, sR, sRow, sRowL, fu, mg, z2]
      have e := ko_11 hk; subst e <;> simp [iniL]
    · exact (kd_ne4 (kd_X11_36 hk) (by decide) hci).elim
  · have z1 := (h0 (k + 37) (by omega)).1
    have z2 := (h0 (k + 37) (by omega)).2.1
    refine ⟨?_, ?_, fun ci hci j hj h3 => ?_⟩
    · funext j
      simp only [sI, sL, sR, sRow, sRowL, fu, mg, z1]
      have e := ko_11 hk; subst e <;> simp [iniI]
    · funext j
      simp only [sI, sL, sR, sRow, sRowL, fu, mg, z2]
      have e := ko_11 hk; subst e <;> simp [iniL]
    · exact (kd_ne4 (kd_X11_37 hk) (by decide) hci).elim
  · have z1 := (h0 (k + 38) (by omega)).1
    have z2 := (h0 (k + 38) (by omega)).2.1
    refine ⟨?_, ?_, fun ci hci j hj h3 => ?_⟩
    · funext j
      simp only [sI, sL, sR, sRow, sRowL, fu, mg, z1]
      have e := ko_11 hk; subst e <;> simp [iniI]
    · funext j
      simp only [sI, sL, sR, sRow, sRowL, fu, mg, z2]
      have e := ko_11 hk; subst e <;> simp [iniL]
    · exact (kd_ne4 (kd_X11_38 hk) (by decide) hci).elim
  · have z1 := (h0 (k + 39) (by omega)).1
    have z2 := (h0 (k + 39) (by omega)).2.1
    refine ⟨?_, ?_, fun ci hci j hj h3 => ?_⟩
    · funext j
      simp only [sI, sL, sR, sRow, sRowL, fu, mg, z1]
      have e := ko_11 hk; subst e <;> simp [iniI]
    · funext j
      simp only [sI, sL, sR, sRow, sRowL, fu, mg, z2]
      have e := ko_11 hk; subst e <;> simp [iniL]
    · exact (kd_ne4 (kd_X11_39 hk) (by decide) hci).elim
set_option maxHeartbeats 4000000 in
set_option maxRecDepth 100000 in
theorem k_X11 (l : Launch) (w : fW) (hAD : fAD w) (k : Nat) (hk : kd k = (4, 11)) (z : Nat → Nat → Bool) (μ0 : fMem) (h0 : Z0 k μ0 z) : Met l yX11_init (.code yX11_init cX11_init 1 none :: gw) ri_X11 (cPc w k z μ0) (cQ w k (k + 40) (zm z k (k + 40)) (mg μ0 ini k (k + 40))) 39 2312 (fun q => w.2.2.1 k ≤ q) := by
  have hkb := kb_X11 hk
  refine cmet_of hAD (by decide) rfl ?_ (by decide)
  intro p e s m below meth c ls C hr hP hs0 hl hS
  obtain ⟨hx, hb, hml, hown, hts, hK, -, hlk, hT, hNs, -⟩ := id C
  have hsz := hs0
  have hZ : Z0 (k + 1) μ0 z := h0.mono (Nat.le_succ k)
  have hA : ∀ {n : Nat}, n ≤ 221 → ∀ a, k ≤ a → a < n → (fun q => w.2.2.1 k ≤ q) (w.2.2.1 a) := fun hn a h1 h2 => hAD.up (n := a) h1 (by omega) (Nat.le_refl _)
  refine lv_aload_n hx hb dX11_init_0 rfl (lv_at hl 0 rfl) ?_
  refine W.objInit hx hb hown (hts _ ol_X11_1) (hts _ oi.1) (hts _ oi.2) rfl (by rw [hml]; exact hl.1) rfl dX11_init_1 (by decide) (Nat.le_of_ble_eq_true rfl) ?_
  refine W.eq (g2 := F0 m 4 ls []) rfl ?_
  refine lv_aload_n hx hb dX11_init_4 rfl (lv_at hl 0 rfl) ?_
  refine lv_sipush (v := (700)) hx hb dX11_init_5 (by decide) ?_
  refine a_newarr C hP hS hsz (by omega) (Or.inl ⟨rfl, rfl⟩) (kd_X11_1 hk) (by decide) (by decide) (by decide) ac_int (hZ (k + 1) (Nat.le_refl _)).1 (hZ (k + 1) (Nat.le_refl _)).2.1 (by decide) (by decide) dX11_init_8 (fun H hP hS hsz _ => ?_)
  have hP : fP (wz w k (k + 2) z) μ0 H := hP
  have hsz : H.size = w.2.2.1 (k + 2) := hsz
  have hZ : Z0 (k + 2) μ0 z := hZ.mono (by omega)
  refine a_p3 C hP hS (hA (by omega)) (by omega) (v := k + 1) ⟨Nat.le_refl _, by omega⟩ hk ff_X11_7 rfl rfl (fun _ => ⟨rfl, rfl⟩) rfl dX11_init_10 (fun H locs hP hS hs9 => ?_)
  rw [hsz] at hs9
  have hsz := hs9
  have hZ : Z0 (k + 2) μ0 (zs z k 1) := hZ.zs (by omega)
  refine lv_aload_n hx hb dX11_init_13 rfl (lv_at hl 0 rfl) ?_
  refine lv_bipush (v := (14)) hx hb dX11_init_14 (by decide) ?_
  refine a_newarr C hP hS hsz (by omega) (Or.inl ⟨rfl, rfl⟩) (kd_X11_2 hk) (by decide) (by decide) (by decide) ac_int (hZ (k + 2) (Nat.le_refl _)).1 (hZ (k + 2) (Nat.le_refl _)).2.1 (by decide) (by decide) dX11_init_16 (fun H hP hS hsz _ => ?_)
  have hP : fP (wz w k (k + 3) (zs z k 1)) μ0 H := hP
  have hsz : H.size = w.2.2.1 (k + 3) := hsz
  have hZ : Z0 (k + 3) μ0 (zs z k 1) := hZ.mono (by omega)
  refine a_p3 C hP hS (hA (by omega)) (by omega) (v := k + 2) ⟨Nat.le_refl _, by omega⟩ hk ff_X11_13 rfl rfl (fun _ => ⟨rfl, rfl⟩) rfl dX11_init_18 (fun H locs hP hS hs9 => ?_)
  rw [hsz] at hs9
  have hsz := hs9
  have hZ : Z0 (k + 3) μ0 (zs (zs z k 1) k 3) := hZ.zs (by omega)
  refine lv_aload_n hx hb dX11_init_21 rfl (lv_at hl 0 rfl) ?_
  refine lv_bipush (v := (12)) hx hb dX11_init_22 (by decide) ?_
  refine a_newarr C hP hS hsz (by omega) (Or.inl ⟨rfl, rfl⟩) (kd_X11_3 hk) (by decide) (by decide) (by decide) ac_int (hZ (k + 3) (Nat.le_refl _)).1 (hZ (k + 3) (Nat.le_refl _)).2.1 (by decide) (by decide) dX11_init_24 (fun H hP hS hsz _ => ?_)
  have hP : fP (wz w k (k + 4) (zs (zs z k 1) k 3)) μ0 H := hP
  have hsz : H.size = w.2.2.1 (k + 4) := hsz
  have hZ : Z0 (k + 4) μ0 (zs (zs z k 1) k 3) := hZ.mono (by omega)
  refine a_p3 C hP hS (hA (by omega)) (by omega) (v := k + 3) ⟨Nat.le_refl _, by omega⟩ hk ff_X11_16 rfl rfl (fun _ => ⟨rfl, rfl⟩) rfl dX11_init_26 (fun H locs hP hS hs9 => ?_)
  rw [hsz] at hs9
  have hsz := hs9
  have hZ : Z0 (k + 4) μ0 (zs (zs (zs z k 1) k 3) k 4) := hZ.zs (by omega)
  refine lv_aload_n hx hb dX11_init_29 rfl (lv_at hl 0 rfl) ?_
  refine lv_bipush (v := (18)) hx hb dX11_init_30 (by decide) ?_
  refine a_newarr C hP hS hsz (by omega) (Or.inl ⟨rfl, rfl⟩) (kd_X11_4 hk) (by decide) (by decide) (by decide) ac_int (hZ (k + 4) (Nat.le_refl _)).1 (hZ (k + 4) (Nat.le_refl _)).2.1 (by decide) (by decide) dX11_init_32 (fun H hP hS hsz _ => ?_)
  have hP : fP (wz w k (k + 5) (zs (zs (zs z k 1) k 3) k 4)) μ0 H := hP
  have hsz : H.size = w.2.2.1 (k + 5) := hsz
  have hZ : Z0 (k + 5) μ0 (zs (zs (zs z k 1) k 3) k 4) := hZ.mono (by omega)
  refine a_p3 C hP hS (hA (by omega)) (by omega) (v := k + 4) ⟨Nat.le_refl _, by omega⟩ hk ff_X11_19 rfl rfl (fun _ => ⟨rfl, rfl⟩) rfl dX11_init_34 (fun H locs hP hS hs9 => ?_)
  rw [hsz] at hs9
  have hsz := hs9
  have hZ : Z0 (k + 5) μ0 (zs (zs (zs (zs z k 1) k 3) k 4) k 5) := hZ.zs (by omega)
  refine lv_aload_n hx hb dX11_init_37 rfl (lv_at hl 0 rfl) ?_
  refine lv_bipush (v := (18)) hx hb dX11_init_38 (by decide) ?_
  refine a_newarr C hP hS hsz (by omega) (Or.inl ⟨rfl, rfl⟩) (kd_X11_5 hk) (by decide) (by decide) (by decide) ac_int (hZ (k + 5) (Nat.le_refl _)).1 (hZ (k + 5) (Nat.le_refl _)).2.1 (by decide) (by decide) dX11_init_40 (fun H hP hS hsz _ => ?_)
  have hP : fP (wz w k (k + 6) (zs (zs (zs (zs z k 1) k 3) k 4) k 5)) μ0 H := hP
  have hsz : H.size = w.2.2.1 (k + 6) := hsz
  have hZ : Z0 (k + 6) μ0 (zs (zs (zs (zs z k 1) k 3) k 4) k 5) := hZ.mono (by omega)
  refine a_p3 C hP hS (hA (by omega)) (by omega) (v := k + 5) ⟨Nat.le_refl _, by omega⟩ hk ff_X11_22 rfl rfl (fun _ => ⟨rfl, rfl⟩) rfl dX11_init_42 (fun H locs hP hS hs9 => ?_)
  rw [hsz] at hs9
  have hsz := hs9
  have hZ : Z0 (k + 6) μ0 (zs (zs (zs (zs (zs z k 1) k 3) k 4) k 5) k 6) := hZ.zs (by omega)
  refine lv_aload_n hx hb dX11_init_45 rfl (lv_at hl 0 rfl) ?_
  refine lv_bipush (v := (16)) hx hb dX11_init_46 (by decide) ?_
  refine a_newarr C hP hS hsz (by omega) (Or.inl ⟨rfl, rfl⟩) (kd_X11_6 hk) (by decide) (by decide) (by decide) ac_int (hZ (k + 6) (Nat.le_refl _)).1 (hZ (k + 6) (Nat.le_refl _)).2.1 (by decide) (by decide) dX11_init_48 (fun H hP hS hsz _ => ?_)
  have hP : fP (wz w k (k + 7) (zs (zs (zs (zs (zs z k 1) k 3) k 4) k 5) k 6)) μ0 H := hP
  have hsz : H.size = w.2.2.1 (k + 7) := hsz
  have hZ : Z0 (k + 7) μ0 (zs (zs (zs (zs (zs z k 1) k 3) k 4) k 5) k 6) := hZ.mono (by omega)
  refine a_p3 C hP hS (hA (by omega)) (by omega) (v := k + 6) ⟨Nat.le_refl _, by omega⟩ hk ff_X11_25 rfl rfl (fun _ => ⟨rfl, rfl⟩) rfl dX11_init_50 (fun H locs hP hS hs9 => ?_)
  rw [hsz] at hs9
  have hsz := hs9
  have hZ : Z0 (k + 7) μ0 (zs (zs (zs (zs (zs (zs z k 1) k 3) k 4) k 5) k 6) k 7) := hZ.zs (by omega)
  refine lv_aload_n hx hb dX11_init_53 rfl (lv_at hl 0 rfl) ?_
  refine lv_bipush (v := (16)) hx hb dX11_init_54 (by decide) ?_
  refine a_newarr C hP hS hsz (by omega) (Or.inl ⟨rfl, rfl⟩) (kd_X11_7 hk) (by decide) (by decide) (by decide) ac_int (hZ (k + 7) (Nat.le_refl _)).1 (hZ (k + 7) (Nat.le_refl _)).2.1 (by decide) (by decide) dX11_init_56 (fun H hP hS hsz _ => ?_)
  have hP : fP (wz w k (k + 8) (zs (zs (zs (zs (zs (zs z k 1) k 3) k 4) k 5) k 6) k 7)) μ0 H := hP
  have hsz : H.size = w.2.2.1 (k + 8) := hsz
  have hZ : Z0 (k + 8) μ0 (zs (zs (zs (zs (zs (zs z k 1) k 3) k 4) k 5) k 6) k 7) := hZ.mono (by omega)
  refine a_p3 C hP hS (hA (by omega)) (by omega) (v := k + 7) ⟨Nat.le_refl _, by omega⟩ hk ff_X11_28 rfl rfl (fun _ => ⟨rfl, rfl⟩) rfl dX11_init_58 (fun H locs hP hS hs9 => ?_)
  rw [hsz] at hs9
  have hsz := hs9
  have hZ : Z0 (k + 8) μ0 (zs (zs (zs (zs (zs (zs (zs z k 1) k 3) k 4) k 5) k 6) k 7) k 8) := hZ.zs (by omega)
  refine lv_aload_n hx hb dX11_init_61 rfl (lv_at hl 0 rfl) ?_
  refine lv_bipush (v := (16)) hx hb dX11_init_62 (by decide) ?_
  refine a_newarr C hP hS hsz (by omega) (Or.inl ⟨rfl, rfl⟩) (kd_X11_8 hk) (by decide) (by decide) (by decide) ac_int (hZ (k + 8) (Nat.le_refl _)).1 (hZ (k + 8) (Nat.le_refl _)).2.1 (by decide) (by decide) dX11_init_64 (fun H hP hS hsz _ => ?_)
  have hP : fP (wz w k (k + 9) (zs (zs (zs (zs (zs (zs (zs z k 1) k 3) k 4) k 5) k 6) k 7) k 8)) μ0 H := hP
  have hsz : H.size = w.2.2.1 (k + 9) := hsz
  have hZ : Z0 (k + 9) μ0 (zs (zs (zs (zs (zs (zs (zs z k 1) k 3) k 4) k 5) k 6) k 7) k 8) := hZ.mono (by omega)
  refine a_p3 C hP hS (hA (by omega)) (by omega) (v := k + 8) ⟨Nat.le_refl _, by omega⟩ hk ff_X11_31 rfl rfl (fun _ => ⟨rfl, rfl⟩) rfl dX11_init_66 (fun H locs hP hS hs9 => ?_)
  rw [hsz] at hs9
  have hsz := hs9
  have hZ : Z0 (k + 9) μ0 (zs (zs (zs (zs (zs (zs (zs (zs z k 1) k 3) k 4) k 5) k 6) k 7) k 8) k 9) := hZ.zs (by omega)
  refine lv_aload_n hx hb dX11_init_69 rfl (lv_at hl 0 rfl) ?_
  refine lv_bipush (v := (16)) hx hb dX11_init_70 (by decide) ?_
  refine a_newarr C hP hS hsz (by omega) (Or.inl ⟨rfl, rfl⟩) (kd_X11_9 hk) (by decide) (by decide) (by decide) ac_int (hZ (k + 9) (Nat.le_refl _)).1 (hZ (k + 9) (Nat.le_refl _)).2.1 (by decide) (by decide) dX11_init_72 (fun H hP hS hsz _ => ?_)
  have hP : fP (wz w k (k + 10) (zs (zs (zs (zs (zs (zs (zs (zs z k 1) k 3) k 4) k 5) k 6) k 7) k 8) k 9)) μ0 H := hP
  have hsz : H.size = w.2.2.1 (k + 10) := hsz
  have hZ : Z0 (k + 10) μ0 (zs (zs (zs (zs (zs (zs (zs (zs z k 1) k 3) k 4) k 5) k 6) k 7) k 8) k 9) := hZ.mono (by omega)
  refine a_p3 C hP hS (hA (by omega)) (by omega) (v := k + 9) ⟨Nat.le_refl _, by omega⟩ hk ff_X11_34 rfl rfl (fun _ => ⟨rfl, rfl⟩) rfl dX11_init_74 (fun H locs hP hS hs9 => ?_)
  rw [hsz] at hs9
  have hsz := hs9
  have hZ : Z0 (k + 10) μ0 (zs (zs (zs (zs (zs (zs (zs (zs (zs z k 1) k 3) k 4) k 5) k 6) k 7) k 8) k 9) k 10) := hZ.zs (by omega)
  refine lv_aload_n hx hb dX11_init_77 rfl (lv_at hl 0 rfl) ?_
  refine lv_bipush (v := (12)) hx hb dX11_init_78 (by decide) ?_
  refine a_newarr C hP hS hsz (by omega) (Or.inl ⟨rfl, rfl⟩) (kd_X11_10 hk) (by decide) (by decide) (by decide) ac_int (hZ (k + 10) (Nat.le_refl _)).1 (hZ (k + 10) (Nat.le_refl _)).2.1 (by decide) (by decide) dX11_init_80 (fun H hP hS hsz _ => ?_)
  have hP : fP (wz w k (k + 11) (zs (zs (zs (zs (zs (zs (zs (zs (zs z k 1) k 3) k 4) k 5) k 6) k 7) k 8) k 9) k 10)) μ0 H := hP
  have hsz : H.size = w.2.2.1 (k + 11) := hsz
  have hZ : Z0 (k + 11) μ0 (zs (zs (zs (zs (zs (zs (zs (zs (zs z k 1) k 3) k 4) k 5) k 6) k 7) k 8) k 9) k 10) := hZ.mono (by omega)
  refine a_p3 C hP hS (hA (by omega)) (by omega) (v := k + 10) ⟨Nat.le_refl _, by omega⟩ hk ff_X11_37 rfl rfl (fun _ => ⟨rfl, rfl⟩) rfl dX11_init_82 (fun H locs hP hS hs9 => ?_)
  rw [hsz] at hs9
  have hsz := hs9
  have hZ : Z0 (k + 11) μ0 (zs (zs (zs (zs (zs (zs (zs (zs (zs (zs z k 1) k 3) k 4) k 5) k 6) k 7) k 8) k 9) k 10) k 11) := hZ.zs (by omega)
  refine lv_aload_n hx hb dX11_init_85 rfl (lv_at hl 0 rfl) ?_
  refine lv_bipush (v := (12)) hx hb dX11_init_86 (by decide) ?_
  refine a_newarr C hP hS hsz (by omega) (Or.inl ⟨rfl, rfl⟩) (kd_X11_11 hk) (by decide) (by decide) (by decide) ac_int (hZ (k + 11) (Nat.le_refl _)).1 (hZ (k + 11) (Nat.le_refl _)).2.1 (by decide) (by decide) dX11_init_88 (fun H hP hS hsz _ => ?_)
  have hP : fP (wz w k (k + 12) (zs (zs (zs (zs (zs (zs (zs (zs (zs (zs z k 1) k 3) k 4) k 5) k 6) k 7) k 8) k 9) k 10) k 11)) μ0 H := hP
  have hsz : H.size = w.2.2.1 (k + 12) := hsz
  have hZ : Z0 (k + 12) μ0 (zs (zs (zs (zs (zs (zs (zs (zs (zs (zs z k 1) k 3) k 4) k 5) k 6) k 7) k 8) k 9) k 10) k 11) := hZ.mono (by omega)
  refine a_p3 C hP hS (hA (by omega)) (by omega) (v := k + 11) ⟨Nat.le_refl _, by omega⟩ hk ff_X11_40 rfl rfl (fun _ => ⟨rfl, rfl⟩) rfl dX11_init_90 (fun H locs hP hS hs9 => ?_)
  rw [hsz] at hs9
  have hsz := hs9
  have hZ : Z0 (k + 12) μ0 (zs (zs (zs (zs (zs (zs (zs (zs (zs (zs (zs z k 1) k 3) k 4) k 5) k 6) k 7) k 8) k 9) k 10) k 11) k 12) := hZ.zs (by omega)
  refine lv_aload_n hx hb dX11_init_93 rfl (lv_at hl 0 rfl) ?_
  refine lv_bipush (v := (12)) hx hb dX11_init_94 (by decide) ?_
  refine a_newarr C hP hS hsz (by omega) (Or.inl ⟨rfl, rfl⟩) (kd_X11_12 hk) (by decide) (by decide) (by decide) ac_int (hZ (k + 12) (Nat.le_refl _)).1 (hZ (k + 12) (Nat.le_refl _)).2.1 (by decide) (by decide) dX11_init_96 (fun H hP hS hsz _ => ?_)
  have hP : fP (wz w k (k + 13) (zs (zs (zs (zs (zs (zs (zs (zs (zs (zs (zs z k 1) k 3) k 4) k 5) k 6) k 7) k 8) k 9) k 10) k 11) k 12)) μ0 H := hP
  have hsz : H.size = w.2.2.1 (k + 13) := hsz
  have hZ : Z0 (k + 13) μ0 (zs (zs (zs (zs (zs (zs (zs (zs (zs (zs (zs z k 1) k 3) k 4) k 5) k 6) k 7) k 8) k 9) k 10) k 11) k 12) := hZ.mono (by omega)
  refine a_p3 C hP hS (hA (by omega)) (by omega) (v := k + 12) ⟨Nat.le_refl _, by omega⟩ hk ff_X11_43 rfl rfl (fun _ => ⟨rfl, rfl⟩) rfl dX11_init_98 (fun H locs hP hS hs9 => ?_)
  rw [hsz] at hs9
  have hsz := hs9
  have hZ : Z0 (k + 13) μ0 (zs (zs (zs (zs (zs (zs (zs (zs (zs (zs (zs (zs z k 1) k 3) k 4) k 5) k 6) k 7) k 8) k 9) k 10) k 11) k 12) k 13) := hZ.zs (by omega)
  refine lv_aload_n hx hb dX11_init_101 rfl (lv_at hl 0 rfl) ?_
  refine lv_bipush (v := (12)) hx hb dX11_init_102 (by decide) ?_
  refine a_newarr C hP hS hsz (by omega) (Or.inl ⟨rfl, rfl⟩) (kd_X11_13 hk) (by decide) (by decide) (by decide) ac_int (hZ (k + 13) (Nat.le_refl _)).1 (hZ (k + 13) (Nat.le_refl _)).2.1 (by decide) (by decide) dX11_init_104 (fun H hP hS hsz _ => ?_)
  have hP : fP (wz w k (k + 14) (zs (zs (zs (zs (zs (zs (zs (zs (zs (zs (zs (zs z k 1) k 3) k 4) k 5) k 6) k 7) k 8) k 9) k 10) k 11) k 12) k 13)) μ0 H := hP
  have hsz : H.size = w.2.2.1 (k + 14) := hsz
  have hZ : Z0 (k + 14) μ0 (zs (zs (zs (zs (zs (zs (zs (zs (zs (zs (zs (zs z k 1) k 3) k 4) k 5) k 6) k 7) k 8) k 9) k 10) k 11) k 12) k 13) := hZ.mono (by omega)
  refine a_p3 C hP hS (hA (by omega)) (by omega) (v := k + 13) ⟨Nat.le_refl _, by omega⟩ hk ff_X11_46 rfl rfl (fun _ => ⟨rfl, rfl⟩) rfl dX11_init_106 (fun H locs hP hS hs9 => ?_)
  rw [hsz] at hs9
  have hsz := hs9
  have hZ : Z0 (k + 14) μ0 (zs (zs (zs (zs (zs (zs (zs (zs (zs (zs (zs (zs (zs z k 1) k 3) k 4) k 5) k 6) k 7) k 8) k 9) k 10) k 11) k 12) k 13) k 14) := hZ.zs (by omega)
  refine lv_aload_n hx hb dX11_init_109 rfl (lv_at hl 0 rfl) ?_
  refine lv_bipush (v := (12)) hx hb dX11_init_110 (by decide) ?_
  refine a_newarr C hP hS hsz (by omega) (Or.inl ⟨rfl, rfl⟩) (kd_X11_14 hk) (by decide) (by decide) (by decide) ac_int (hZ (k + 14) (Nat.le_refl _)).1 (hZ (k + 14) (Nat.le_refl _)).2.1 (by decide) (by decide) dX11_init_112 (fun H hP hS hsz _ => ?_)
  have hP : fP (wz w k (k + 15) (zs (zs (zs (zs (zs (zs (zs (zs (zs (zs (zs (zs (zs z k 1) k 3) k 4) k 5) k 6) k 7) k 8) k 9) k 10) k 11) k 12) k 13) k 14)) μ0 H := hP
  have hsz : H.size = w.2.2.1 (k + 15) := hsz
  have hZ : Z0 (k + 15) μ0 (zs (zs (zs (zs (zs (zs (zs (zs (zs (zs (zs (zs (zs z k 1) k 3) k 4) k 5) k 6) k 7) k 8) k 9) k 10) k 11) k 12) k 13) k 14) := hZ.mono (by omega)
  refine a_p3 C hP hS (hA (by omega)) (by omega) (v := k + 14) ⟨Nat.le_refl _, by omega⟩ hk ff_X11_49 rfl rfl (fun _ => ⟨rfl, rfl⟩) rfl dX11_init_114 (fun H locs hP hS hs9 => ?_)
  rw [hsz] at hs9
  have hsz := hs9
  have hZ : Z0 (k + 15) μ0 (zs (zs (zs (zs (zs (zs (zs (zs (zs (zs (zs (zs (zs (zs z k 1) k 3) k 4) k 5) k 6) k 7) k 8) k 9) k 10) k 11) k 12) k 13) k 14) k 15) := hZ.zs (by omega)
  refine lv_aload_n hx hb dX11_init_117 rfl (lv_at hl 0 rfl) ?_
  refine lv_bipush (v := (18)) hx hb dX11_init_118 (by decide) ?_
  refine a_newarr C hP hS hsz (by omega) (Or.inl ⟨rfl, rfl⟩) (kd_X11_15 hk) (by decide) (by decide) (by decide) ac_int (hZ (k + 15) (Nat.le_refl _)).1 (hZ (k + 15) (Nat.le_refl _)).2.1 (by decide) (by decide) dX11_init_120 (fun H hP hS hsz _ => ?_)
  have hP : fP (wz w k (k + 16) (zs (zs (zs (zs (zs (zs (zs (zs (zs (zs (zs (zs (zs (zs z k 1) k 3) k 4) k 5) k 6) k 7) k 8) k 9) k 10) k 11) k 12) k 13) k 14) k 15)) μ0 H := hP
  have hsz : H.size = w.2.2.1 (k + 16) := hsz
  have hZ : Z0 (k + 16) μ0 (zs (zs (zs (zs (zs (zs (zs (zs (zs (zs (zs (zs (zs (zs z k 1) k 3) k 4) k 5) k 6) k 7) k 8) k 9) k 10) k 11) k 12) k 13) k 14) k 15) := hZ.mono (by omega)
  refine a_p3 C hP hS (hA (by omega)) (by omega) (v := k + 15) ⟨Nat.le_refl _, by omega⟩ hk ff_X11_52 rfl rfl (fun _ => ⟨rfl, rfl⟩) rfl dX11_init_122 (fun H locs hP hS hs9 => ?_)
  rw [hsz] at hs9
  have hsz := hs9
  have hZ : Z0 (k + 16) μ0 (zs (zs (zs (zs (zs (zs (zs (zs (zs (zs (zs (zs (zs (zs (zs z k 1) k 3) k 4) k 5) k 6) k 7) k 8) k 9) k 10) k 11) k 12) k 13) k 14) k 15) k 16) := hZ.zs (by omega)
  refine lv_aload_n hx hb dX11_init_125 rfl (lv_at hl 0 rfl) ?_
  refine lv_bipush (v := (6)) hx hb dX11_init_126 (by decide) ?_
  refine a_newarr C hP hS hsz (by omega) (Or.inl ⟨rfl, rfl⟩) (kd_X11_16 hk) (by decide) (by decide) (by decide) ac_int (hZ (k + 16) (Nat.le_refl _)).1 (hZ (k + 16) (Nat.le_refl _)).2.1 (by decide) (by decide) dX11_init_128 (fun H hP hS hsz _ => ?_)
  have hP : fP (wz w k (k + 17) (zs (zs (zs (zs (zs (zs (zs (zs (zs (zs (zs (zs (zs (zs (zs z k 1) k 3) k 4) k 5) k 6) k 7) k 8) k 9) k 10) k 11) k 12) k 13) k 14) k 15) k 16)) μ0 H := hP
  have hsz : H.size = w.2.2.1 (k + 17) := hsz
  have hZ : Z0 (k + 17) μ0 (zs (zs (zs (zs (zs (zs (zs (zs (zs (zs (zs (zs (zs (zs (zs z k 1) k 3) k 4) k 5) k 6) k 7) k 8) k 9) k 10) k 11) k 12) k 13) k 14) k 15) k 16) := hZ.mono (by omega)
  refine a_p3 C hP hS (hA (by omega)) (by omega) (v := k + 16) ⟨Nat.le_refl _, by omega⟩ hk ff_X11_55 rfl rfl (fun _ => ⟨rfl, rfl⟩) rfl dX11_init_130 (fun H locs hP hS hs9 => ?_)
  rw [hsz] at hs9
  have hsz := hs9
  have hZ : Z0 (k + 17) μ0 (zs (zs (zs (zs (zs (zs (zs (zs (zs (zs (zs (zs (zs (zs (zs (zs z k 1) k 3) k 4) k 5) k 6) k 7) k 8) k 9) k 10) k 11) k 12) k 13) k 14) k 15) k 16) k 17) := hZ.zs (by omega)
  refine lv_aload_n hx hb dX11_init_133 rfl (lv_at hl 0 rfl) ?_
  refine lv_bipush (v := (6)) hx hb dX11_init_134 (by decide) ?_
  refine a_newarr C hP hS hsz (by omega) (Or.inl ⟨rfl, rfl⟩) (kd_X11_17 hk) (by decide) (by decide) (by decide) ac_int (hZ (k + 17) (Nat.le_refl _)).1 (hZ (k + 17) (Nat.le_refl _)).2.1 (by decide) (by decide) dX11_init_136 (fun H hP hS hsz _ => ?_)
  have hP : fP (wz w k (k + 18) (zs (zs (zs (zs (zs (zs (zs (zs (zs (zs (zs (zs (zs (zs (zs (zs z k 1) k 3) k 4) k 5) k 6) k 7) k 8) k 9) k 10) k 11) k 12) k 13) k 14) k 15) k 16) k 17)) μ0 H := hP
  have hsz : H.size = w.2.2.1 (k + 18) := hsz
  have hZ : Z0 (k + 18) μ0 (zs (zs (zs (zs (zs (zs (zs (zs (zs (zs (zs (zs (zs (zs (zs (zs z k 1) k 3) k 4) k 5) k 6) k 7) k 8) k 9) k 10) k 11) k 12) k 13) k 14) k 15) k 16) k 17) := hZ.mono (by omega)
  refine a_p3 C hP hS (hA (by omega)) (by omega) (v := k + 17) ⟨Nat.le_refl _, by omega⟩ hk ff_X11_58 rfl rfl (fun _ => ⟨rfl, rfl⟩) rfl dX11_init_138 (fun H locs hP hS hs9 => ?_)
  rw [hsz] at hs9
  have hsz := hs9
  have hZ : Z0 (k + 18) μ0 (zs (zs (zs (zs (zs (zs (zs (zs (zs (zs (zs (zs (zs (zs (zs (zs (zs z k 1) k 3) k 4) k 5) k 6) k 7) k 8) k 9) k 10) k 11) k 12) k 13) k 14) k 15) k 16) k 17) k 18) := hZ.zs (by omega)
  refine lv_aload_n hx hb dX11_init_141 rfl (lv_at hl 0 rfl) ?_
  refine lv_sipush (v := (128)) hx hb dX11_init_142 (by decide) ?_
  refine a_newarr C hP hS hsz (by omega) (Or.inl ⟨rfl, rfl⟩) (kd_X11_18 hk) (by decide) (by decide) (by decide) ac_int (hZ (k + 18) (Nat.le_refl _)).1 (hZ (k + 18) (Nat.le_refl _)).2.1 (by decide) (by decide) dX11_init_145 (fun H hP hS hsz _ => ?_)
  have hP : fP (wz w k (k + 19) (zs (zs (zs (zs (zs (zs (zs (zs (zs (zs (zs (zs (zs (zs (zs (zs (zs z k 1) k 3) k 4) k 5) k 6) k 7) k 8) k 9) k 10) k 11) k 12) k 13) k 14) k 15) k 16) k 17) k 18)) μ0 H := hP
  have hsz : H.size = w.2.2.1 (k + 19) := hsz
  have hZ : Z0 (k + 19) μ0 (zs (zs (zs (zs (zs (zs (zs (zs (zs (zs (zs (zs (zs (zs (zs (zs (zs z k 1) k 3) k 4) k 5) k 6) k 7) k 8) k 9) k 10) k 11) k 12) k 13) k 14) k 15) k 16) k 17) k 18) := hZ.mono (by omega)
  refine a_p3 C hP hS (hA (by omega)) (by omega) (v := k + 18) ⟨Nat.le_refl _, by omega⟩ hk ff_X11_61 rfl rfl (fun _ => ⟨rfl, rfl⟩) rfl dX11_init_147 (fun H locs hP hS hs9 => ?_)
  rw [hsz] at hs9
  have hsz := hs9
  have hZ : Z0 (k + 19) μ0 (zs (zs (zs (zs (zs (zs (zs (zs (zs (zs (zs (zs (zs (zs (zs (zs (zs (zs z k 1) k 3) k 4) k 5) k 6) k 7) k 8) k 9) k 10) k 11) k 12) k 13) k 14) k 15) k 16) k 17) k 18) k 19) := hZ.zs (by omega)
  refine lv_aload_n hx hb dX11_init_150 rfl (lv_at hl 0 rfl) ?_
  refine lv_sipush (v := (128)) hx hb dX11_init_151 (by decide) ?_
  refine a_newarr C hP hS hsz (by omega) (Or.inl ⟨rfl, rfl⟩) (kd_X11_19 hk) (by decide) (by decide) (by decide) ac_int (hZ (k + 19) (Nat.le_refl _)).1 (hZ (k + 19) (Nat.le_refl _)).2.1 (by decide) (by decide) dX11_init_154 (fun H hP hS hsz _ => ?_)
  have hP : fP (wz w k (k + 20) (zs (zs (zs (zs (zs (zs (zs (zs (zs (zs (zs (zs (zs (zs (zs (zs (zs (zs z k 1) k 3) k 4) k 5) k 6) k 7) k 8) k 9) k 10) k 11) k 12) k 13) k 14) k 15) k 16) k 17) k 18) k 19)) μ0 H := hP
  have hsz : H.size = w.2.2.1 (k + 20) := hsz
  have hZ : Z0 (k + 20) μ0 (zs (zs (zs (zs (zs (zs (zs (zs (zs (zs (zs (zs (zs (zs (zs (zs (zs (zs z k 1) k 3) k 4) k 5) k 6) k 7) k 8) k 9) k 10) k 11) k 12) k 13) k 14) k 15) k 16) k 17) k 18) k 19) := hZ.mono (by omega)
  refine a_p3 C hP hS (hA (by omega)) (by omega) (v := k + 19) ⟨Nat.le_refl _, by omega⟩ hk ff_X11_64 rfl rfl (fun _ => ⟨rfl, rfl⟩) rfl dX11_init_156 (fun H locs hP hS hs9 => ?_)
  rw [hsz] at hs9
  have hsz := hs9
  have hZ : Z0 (k + 20) μ0 (zs (zs (zs (zs (zs (zs (zs (zs (zs (zs (zs (zs (zs (zs (zs (zs (zs (zs (zs z k 1) k 3) k 4) k 5) k 6) k 7) k 8) k 9) k 10) k 11) k 12) k 13) k 14) k 15) k 16) k 17) k 18) k 19) k 20) := hZ.zs (by omega)
  refine lv_aload_n hx hb dX11_init_159 rfl (lv_at hl 0 rfl) ?_
  refine lv_iconst (v := (-1)) hx hb dX11_init_160 (by decide) ?_
  refine a_p0 C hP hS (hA (by omega)) (by omega) ⟨Nat.le_refl _, by omega⟩ hk fp_X11_67 (Or.inl ⟨rfl, rfl⟩) dX11_init_161 (fun H locs hP hS hs9 => ?_)
  rw [hsz] at hs9
  have hsz := hs9
  have hZ : Z0 (k + 20) (sI μ0 k 31 (-1)) (zs (zs (zs (zs (zs (zs (zs (zs (zs (zs (zs (zs (zs (zs (zs (zs (zs (zs (zs z k 1) k 3) k 4) k 5) k 6) k 7) k 8) k 9) k 10) k 11) k 12) k 13) k 14) k 15) k 16) k 17) k 18) k 19) k 20) := hZ.sI (by omega)
  refine lv_aload_n hx hb dX11_init_164 rfl (lv_at hl 0 rfl) ?_
  refine lv_bipush (v := (7)) hx hb dX11_init_165 (by decide) ?_
  refine a_newarr C hP hS hsz (by omega) (Or.inr (Or.inr ⟨rfl, rfl⟩)) (kd_X11_20 hk) (by decide) (by decide) (by decide) ac_long (hZ (k + 20) (Nat.le_refl _)).1 (hZ (k + 20) (Nat.le_refl _)).2.1 (by decide) (by decide) dX11_init_167 (fun H hP hS hsz _ => ?_)
  have hP : fP (wz w k (k + 21) (zs (zs (zs (zs (zs (zs (zs (zs (zs (zs (zs (zs (zs (zs (zs (zs (zs (zs (zs z k 1) k 3) k 4) k 5) k 6) k 7) k 8) k 9) k 10) k 11) k 12) k 13) k 14) k 15) k 16) k 17) k 18) k 19) k 20)) (sI μ0 k 31 (-1)) H := hP
  have hsz : H.size = w.2.2.1 (k + 21) := hsz
  have hZ : Z0 (k + 21) (sI μ0 k 31 (-1)) (zs (zs (zs (zs (zs (zs (zs (zs (zs (zs (zs (zs (zs (zs (zs (zs (zs (zs (zs z k 1) k 3) k 4) k 5) k 6) k 7) k 8) k 9) k 10) k 11) k 12) k 13) k 14) k 15) k 16) k 17) k 18) k 19) k 20) := hZ.mono (by omega)
  refine a_p3 C hP hS (hA (by omega)) (by omega) (v := k + 20) ⟨Nat.le_refl _, by omega⟩ hk ff_X11_71 rfl rfl (fun _ => ⟨rfl, rfl⟩) rfl dX11_init_169 (fun H locs hP hS hs9 => ?_)
  rw [hsz] at hs9
  have hsz := hs9
  have hZ : Z0 (k + 21) (sI μ0 k 31 (-1)) (zs (zs (zs (zs (zs (zs (zs (zs (zs (zs (zs (zs (zs (zs (zs (zs (zs (zs (zs (zs z k 1) k 3) k 4) k 5) k 6) k 7) k 8) k 9) k 10) k 11) k 12) k 13) k 14) k 15) k 16) k 17) k 18) k 19) k 20) k 34) := hZ.zs (by omega)
  refine lv_aload_n hx hb dX11_init_172 rfl (lv_at hl 0 rfl) ?_
  refine lv_bipush (v := (64)) hx hb dX11_init_173 (by decide) ?_
  refine a_newarr C hP hS hsz (by omega) (Or.inr (Or.inr ⟨rfl, rfl⟩)) (kd_X11_21 hk) (by decide) (by decide) (by decide) ac_long (hZ (k + 21) (Nat.le_refl _)).1 (hZ (k + 21) (Nat.le_refl _)).2.1 (by decide) (by decide) dX11_init_175 (fun H hP hS hsz _ => ?_)
  have hP : fP (wz w k (k + 22) (zs (zs (zs (zs (zs (zs (zs (zs (zs (zs (zs (zs (zs (zs (zs (zs (zs (zs (zs (zs z k 1) k 3) k 4) k 5) k 6) k 7) k 8) k 9) k 10) k 11) k 12) k 13) k 14) k 15) k 16) k 17) k 18) k 19) k 20) k 34)) (sI μ0 k 31 (-1)) H := hP
  have hsz : H.size = w.2.2.1 (k + 22) := hsz
  have hZ : Z0 (k + 22) (sI μ0 k 31 (-1)) (zs (zs (zs (zs (zs (zs (zs (zs (zs (zs (zs (zs (zs (zs (zs (zs (zs (zs (zs (zs z k 1) k 3) k 4) k 5) k 6) k 7) k 8) k 9) k 10) k 11) k 12) k 13) k 14) k 15) k 16) k 17) k 18) k 19) k 20) k 34) := hZ.mono (by omega)
  refine a_p3 C hP hS (hA (by omega)) (by omega) (v := k + 21) ⟨Nat.le_refl _, by omega⟩ hk ff_X11_75 rfl rfl (fun _ => ⟨rfl, rfl⟩) rfl dX11_init_177 (fun H locs hP hS hs9 => ?_)
  rw [hsz] at hs9
  have hsz := hs9
  have hZ : Z0 (k + 22) (sI μ0 k 31 (-1)) (zs (zs (zs (zs (zs (zs (zs (zs (zs (zs (zs (zs (zs (zs (zs (zs (zs (zs (zs (zs (zs z k 1) k 3) k 4) k 5) k 6) k 7) k 8) k 9) k 10) k 11) k 12) k 13) k 14) k 15) k 16) k 17) k 18) k 19) k 20) k 34) k 35) := hZ.zs (by omega)
  refine lv_aload_n hx hb dX11_init_180 rfl (lv_at hl 0 rfl) ?_
  refine lv_bipush (v := (23)) hx hb dX11_init_181 (by decide) ?_
  refine a_newarr C hP hS hsz (by omega) (Or.inl ⟨rfl, rfl⟩) (kd_X11_22 hk) (by decide) (by decide) (by decide) ac_int (hZ (k + 22) (Nat.le_refl _)).1 (hZ (k + 22) (Nat.le_refl _)).2.1 (by decide) (by decide) dX11_init_183 (fun H hP hS hsz _ => ?_)
  have hP : fP (wz w k (k + 23) (zs (zs (zs (zs (zs (zs (zs (zs (zs (zs (zs (zs (zs (zs (zs (zs (zs (zs (zs (zs (zs z k 1) k 3) k 4) k 5) k 6) k 7) k 8) k 9) k 10) k 11) k 12) k 13) k 14) k 15) k 16) k 17) k 18) k 19) k 20) k 34) k 35)) (sI μ0 k 31 (-1)) H := hP
  have hsz : H.size = w.2.2.1 (k + 23) := hsz
  have hZ : Z0 (k + 23) (sI μ0 k 31 (-1)) (zs (zs (zs (zs (zs (zs (zs (zs (zs (zs (zs (zs (zs (zs (zs (zs (zs (zs (zs (zs (zs z k 1) k 3) k 4) k 5) k 6) k 7) k 8) k 9) k 10) k 11) k 12) k 13) k 14) k 15) k 16) k 17) k 18) k 19) k 20) k 34) k 35) := hZ.mono (by omega)
  refine a_p3 C hP hS (hA (by omega)) (by omega) (v := k + 22) ⟨Nat.le_refl _, by omega⟩ hk ff_X11_78 rfl rfl (fun _ => ⟨rfl, rfl⟩) rfl dX11_init_185 (fun H locs hP hS hs9 => ?_)
  rw [hsz] at hs9
  have hsz := hs9
  have hZ : Z0 (k + 23) (sI μ0 k 31 (-1)) (zs (zs (zs (zs (zs (zs (zs (zs (zs (zs (zs (zs (zs (zs (zs (zs (zs (zs (zs (zs (zs (zs z k 1) k 3) k 4) k 5) k 6) k 7) k 8) k 9) k 10) k 11) k 12) k 13) k 14) k 15) k 16) k 17) k 18) k 19) k 20) k 34) k 35) k 37) := hZ.zs (by omega)
  refine lv_aload_n hx hb dX11_init_188 rfl (lv_at hl 0 rfl) ?_
  refine lv_bipush (v := (23)) hx hb dX11_init_189 (by decide) ?_
  refine a_newarr C hP hS hsz (by omega) (Or.inl ⟨rfl, rfl⟩) (kd_X11_23 hk) (by decide) (by decide) (by decide) ac_int (hZ (k + 23) (Nat.le_refl _)).1 (hZ (k + 23) (Nat.le_refl _)).2.1 (by decide) (by decide) dX11_init_191 (fun H hP hS hsz _ => ?_)
  have hP : fP (wz w k (k + 24) (zs (zs (zs (zs (zs (zs (zs (zs (zs (zs (zs (zs (zs (zs (zs (zs (zs (zs (zs (zs (zs (zs z k 1) k 3) k 4) k 5) k 6) k 7) k 8) k 9) k 10) k 11) k 12) k 13) k 14) k 15) k 16) k 17) k 18) k 19) k 20) k 34) k 35) k 37)) (sI μ0 k 31 (-1)) H := hP
  have hsz : H.size = w.2.2.1 (k + 24) := hsz
  have hZ : Z0 (k + 24) (sI μ0 k 31 (-1)) (zs (zs (zs (zs (zs (zs (zs (zs (zs (zs (zs (zs (zs (zs (zs (zs (zs (zs (zs (zs (zs (zs z k 1) k 3) k 4) k 5) k 6) k 7) k 8) k 9) k 10) k 11) k 12) k 13) k 14) k 15) k 16) k 17) k 18) k 19) k 20) k 34) k 35) k 37) := hZ.mono (by omega)
  refine a_p3 C hP hS (hA (by omega)) (by omega) (v := k + 23) ⟨Nat.le_refl _, by omega⟩ hk ff_X11_81 rfl rfl (fun _ => ⟨rfl, rfl⟩) rfl dX11_init_193 (fun H locs hP hS hs9 => ?_)
  rw [hsz] at hs9
  have hsz := hs9
  have hZ : Z0 (k + 24) (sI μ0 k 31 (-1)) (zs (zs (zs (zs (zs (zs (zs (zs (zs (zs (zs (zs (zs (zs (zs (zs (zs (zs (zs (zs (zs (zs (zs z k 1) k 3) k 4) k 5) k 6) k 7) k 8) k 9) k 10) k 11) k 12) k 13) k 14) k 15) k 16) k 17) k 18) k 19) k 20) k 34) k 35) k 37) k 38) := hZ.zs (by omega)
  refine lv_aload_n hx hb dX11_init_196 rfl (lv_at hl 0 rfl) ?_
  refine lv_bipush (v := (23)) hx hb dX11_init_197 (by decide) ?_
  refine a_newarr C hP hS hsz (by omega) (Or.inl ⟨rfl, rfl⟩) (kd_X11_24 hk) (by decide) (by decide) (by decide) ac_int (hZ (k + 24) (Nat.le_refl _)).1 (hZ (k + 24) (Nat.le_refl _)).2.1 (by decide) (by decide) dX11_init_199 (fun H hP hS hsz _ => ?_)
  have hP : fP (wz w k (k + 25) (zs (zs (zs (zs (zs (zs (zs (zs (zs (zs (zs (zs (zs (zs (zs (zs (zs (zs (zs (zs (zs (zs (zs z k 1) k 3) k 4) k 5) k 6) k 7) k 8) k 9) k 10) k 11) k 12) k 13) k 14) k 15) k 16) k 17) k 18) k 19) k 20) k 34) k 35) k 37) k 38)) (sI μ0 k 31 (-1)) H := hP
  have hsz : H.size = w.2.2.1 (k + 25) := hsz
  have hZ : Z0 (k + 25) (sI μ0 k 31 (-1)) (zs (zs (zs (zs (zs (zs (zs (zs (zs (zs (zs (zs (zs (zs (zs (zs (zs (zs (zs (zs (zs (zs (zs z k 1) k 3) k 4) k 5) k 6) k 7) k 8) k 9) k 10) k 11) k 12) k 13) k 14) k 15) k 16) k 17) k 18) k 19) k 20) k 34) k 35) k 37) k 38) := hZ.mono (by omega)
  refine a_p3 C hP hS (hA (by omega)) (by omega) (v := k + 24) ⟨Nat.le_refl _, by omega⟩ hk ff_X11_84 rfl rfl (fun _ => ⟨rfl, rfl⟩) rfl dX11_init_201 (fun H locs hP hS hs9 => ?_)
  rw [hsz] at hs9
  have hsz := hs9
  have hZ : Z0 (k + 25) (sI μ0 k 31 (-1)) (zs (zs (zs (zs (zs (zs (zs (zs (zs (zs (zs (zs (zs (zs (zs (zs (zs (zs (zs (zs (zs (zs (zs (zs z k 1) k 3) k 4) k 5) k 6) k 7) k 8) k 9) k 10) k 11) k 12) k 13) k 14) k 15) k 16) k 17) k 18) k 19) k 20) k 34) k 35) k 37) k 38) k 39) := hZ.zs (by omega)
  refine lv_aload_n hx hb dX11_init_204 rfl (lv_at hl 0 rfl) ?_
  refine lv_sipush (v := (184)) hx hb dX11_init_205 (by decide) ?_
  refine a_newarr C hP hS hsz (by omega) (Or.inl ⟨rfl, rfl⟩) (kd_X11_25 hk) (by decide) (by decide) (by decide) ac_int (hZ (k + 25) (Nat.le_refl _)).1 (hZ (k + 25) (Nat.le_refl _)).2.1 (by decide) (by decide) dX11_init_208 (fun H hP hS hsz _ => ?_)
  have hP : fP (wz w k (k + 26) (zs (zs (zs (zs (zs (zs (zs (zs (zs (zs (zs (zs (zs (zs (zs (zs (zs (zs (zs (zs (zs (zs (zs (zs z k 1) k 3) k 4) k 5) k 6) k 7) k 8) k 9) k 10) k 11) k 12) k 13) k 14) k 15) k 16) k 17) k 18) k 19) k 20) k 34) k 35) k 37) k 38) k 39)) (sI μ0 k 31 (-1)) H := hP
  have hsz : H.size = w.2.2.1 (k + 26) := hsz
  have hZ : Z0 (k + 26) (sI μ0 k 31 (-1)) (zs (zs (zs (zs (zs (zs (zs (zs (zs (zs (zs (zs (zs (zs (zs (zs (zs (zs (zs (zs (zs (zs (zs (zs z k 1) k 3) k 4) k 5) k 6) k 7) k 8) k 9) k 10) k 11) k 12) k 13) k 14) k 15) k 16) k 17) k 18) k 19) k 20) k 34) k 35) k 37) k 38) k 39) := hZ.mono (by omega)
  refine a_p3 C hP hS (hA (by omega)) (by omega) (v := k + 25) ⟨Nat.le_refl _, by omega⟩ hk ff_X11_87 rfl rfl (fun _ => ⟨rfl, rfl⟩) rfl dX11_init_210 (fun H locs hP hS hs9 => ?_)
  rw [hsz] at hs9
  have hsz := hs9
  have hZ : Z0 (k + 26) (sI μ0 k 31 (-1)) (zs (zs (zs (zs (zs (zs (zs (zs (zs (zs (zs (zs (zs (zs (zs (zs (zs (zs (zs (zs (zs (zs (zs (zs (zs z k 1) k 3) k 4) k 5) k 6) k 7) k 8) k 9) k 10) k 11) k 12) k 13) k 14) k 15) k 16) k 17) k 18) k 19) k 20) k 34) k 35) k 37) k 38) k 39) k 40) := hZ.zs (by omega)
  refine lv_aload_n hx hb dX11_init_213 rfl (lv_at hl 0 rfl) ?_
  refine lv_sipush (v := (184)) hx hb dX11_init_214 (by decide) ?_
  refine a_newarr C hP hS hsz (by omega) (Or.inl ⟨rfl, rfl⟩) (kd_X11_26 hk) (by decide) (by decide) (by decide) ac_int (hZ (k + 26) (Nat.le_refl _)).1 (hZ (k + 26) (Nat.le_refl _)).2.1 (by decide) (by decide) dX11_init_217 (fun H hP hS hsz _ => ?_)
  have hP : fP (wz w k (k + 27) (zs (zs (zs (zs (zs (zs (zs (zs (zs (zs (zs (zs (zs (zs (zs (zs (zs (zs (zs (zs (zs (zs (zs (zs (zs z k 1) k 3) k 4) k 5) k 6) k 7) k 8) k 9) k 10) k 11) k 12) k 13) k 14) k 15) k 16) k 17) k 18) k 19) k 20) k 34) k 35) k 37) k 38) k 39) k 40)) (sI μ0 k 31 (-1)) H := hP
  have hsz : H.size = w.2.2.1 (k + 27) := hsz
  have hZ : Z0 (k + 27) (sI μ0 k 31 (-1)) (zs (zs (zs (zs (zs (zs (zs (zs (zs (zs (zs (zs (zs (zs (zs (zs (zs (zs (zs (zs (zs (zs (zs (zs (zs z k 1) k 3) k 4) k 5) k 6) k 7) k 8) k 9) k 10) k 11) k 12) k 13) k 14) k 15) k 16) k 17) k 18) k 19) k 20) k 34) k 35) k 37) k 38) k 39) k 40) := hZ.mono (by omega)
  refine a_p3 C hP hS (hA (by omega)) (by omega) (v := k + 26) ⟨Nat.le_refl _, by omega⟩ hk ff_X11_90 rfl rfl (fun _ => ⟨rfl, rfl⟩) rfl dX11_init_219 (fun H locs hP hS hs9 => ?_)
  rw [hsz] at hs9
  have hsz := hs9
  have hZ : Z0 (k + 27) (sI μ0 k 31 (-1)) (zs (zs (zs (zs (zs (zs (zs (zs (zs (zs (zs (zs (zs (zs (zs (zs (zs (zs (zs (zs (zs (zs (zs (zs (zs (zs z k 1) k 3) k 4) k 5) k 6) k 7) k 8) k 9) k 10) k 11) k 12) k 13) k 14) k 15) k 16) k 17) k 18) k 19) k 20) k 34) k 35) k 37) k 38) k 39) k 40) k 41) := hZ.zs (by omega)
  refine lv_aload_n hx hb dX11_init_222 rfl (lv_at hl 0 rfl) ?_
  refine lv_sipush (v := (184)) hx hb dX11_init_223 (by decide) ?_
  refine a_newarr C hP hS hsz (by omega) (Or.inl ⟨rfl, rfl⟩) (kd_X11_27 hk) (by decide) (by decide) (by decide) ac_int (hZ (k + 27) (Nat.le_refl _)).1 (hZ (k + 27) (Nat.le_refl _)).2.1 (by decide) (by decide) dX11_init_226 (fun H hP hS hsz _ => ?_)
  have hP : fP (wz w k (k + 28) (zs (zs (zs (zs (zs (zs (zs (zs (zs (zs (zs (zs (zs (zs (zs (zs (zs (zs (zs (zs (zs (zs (zs (zs (zs (zs z k 1) k 3) k 4) k 5) k 6) k 7) k 8) k 9) k 10) k 11) k 12) k 13) k 14) k 15) k 16) k 17) k 18) k 19) k 20) k 34) k 35) k 37) k 38) k 39) k 40) k 41)) (sI μ0 k 31 (-1)) H := hP
  have hsz : H.size = w.2.2.1 (k + 28) := hsz
  have hZ : Z0 (k + 28) (sI μ0 k 31 (-1)) (zs (zs (zs (zs (zs (zs (zs (zs (zs (zs (zs (zs (zs (zs (zs (zs (zs (zs (zs (zs (zs (zs (zs (zs (zs (zs z k 1) k 3) k 4) k 5) k 6) k 7) k 8) k 9) k 10) k 11) k 12) k 13) k 14) k 15) k 16) k 17) k 18) k 19) k 20) k 34) k 35) k 37) k 38) k 39) k 40) k 41) := hZ.mono (by omega)
  refine a_p3 C hP hS (hA (by omega)) (by omega) (v := k + 27) ⟨Nat.le_refl _, by omega⟩ hk ff_X11_93 rfl rfl (fun _ => ⟨rfl, rfl⟩) rfl dX11_init_228 (fun H locs hP hS hs9 => ?_)
  rw [hsz] at hs9
  have hsz := hs9
  have hZ : Z0 (k + 28) (sI μ0 k 31 (-1)) (zs (zs (zs (zs (zs (zs (zs (zs (zs (zs (zs (zs (zs (zs (zs (zs (zs (zs (zs (zs (zs (zs (zs (zs (zs (zs (zs z k 1) k 3) k 4) k 5) k 6) k 7) k 8) k 9) k 10) k 11) k 12) k 13) k 14) k 15) k 16) k 17) k 18) k 19) k 20) k 34) k 35) k 37) k 38) k 39) k 40) k 41) k 42) := hZ.zs (by omega)
  refine lv_aload_n hx hb dX11_init_231 rfl (lv_at hl 0 rfl) ?_
  refine lv_sipush (v := (138)) hx hb dX11_init_232 (by decide) ?_
  refine a_newarr C hP hS hsz (by omega) (Or.inl ⟨rfl, rfl⟩) (kd_X11_28 hk) (by decide) (by decide) (by decide) ac_int (hZ (k + 28) (Nat.le_refl _)).1 (hZ (k + 28) (Nat.le_refl _)).2.1 (by decide) (by decide) dX11_init_235 (fun H hP hS hsz _ => ?_)
  have hP : fP (wz w k (k + 29) (zs (zs (zs (zs (zs (zs (zs (zs (zs (zs (zs (zs (zs (zs (zs (zs (zs (zs (zs (zs (zs (zs (zs (zs (zs (zs (zs z k 1) k 3) k 4) k 5) k 6) k 7) k 8) k 9) k 10) k 11) k 12) k 13) k 14) k 15) k 16) k 17) k 18) k 19) k 20) k 34) k 35) k 37) k 38) k 39) k 40) k 41) k 42)) (sI μ0 k 31 (-1)) H := hP
  have hsz : H.size = w.2.2.1 (k + 29) := hsz
  have hZ : Z0 (k + 29) (sI μ0 k 31 (-1)) (zs (zs (zs (zs (zs (zs (zs (zs (zs (zs (zs (zs (zs (zs (zs (zs (zs (zs (zs (zs (zs (zs (zs (zs (zs (zs (zs z k 1) k 3) k 4) k 5) k 6) k 7) k 8) k 9) k 10) k 11) k 12) k 13) k 14) k 15) k 16) k 17) k 18) k 19) k 20) k 34) k 35) k 37) k 38) k 39) k 40) k 41) k 42) := hZ.mono (by omega)
  refine a_p3 C hP hS (hA (by omega)) (by omega) (v := k + 28) ⟨Nat.le_refl _, by omega⟩ hk ff_X11_96 rfl rfl (fun _ => ⟨rfl, rfl⟩) rfl dX11_init_237 (fun H locs hP hS hs9 => ?_)
  rw [hsz] at hs9
  have hsz := hs9
  have hZ : Z0 (k + 29) (sI μ0 k 31 (-1)) (zs (zs (zs (zs (zs (zs (zs (zs (zs (zs (zs (zs (zs (zs (zs (zs (zs (zs (zs (zs (zs (zs (zs (zs (zs (zs (zs (zs z k 1) k 3) k 4) k 5) k 6) k 7) k 8) k 9) k 10) k 11) k 12) k 13) k 14) k 15) k 16) k 17) k 18) k 19) k 20) k 34) k 35) k 37) k 38) k 39) k 40) k 41) k 42) k 43) := hZ.zs (by omega)
  refine lv_aload_n hx hb dX11_init_240 rfl (lv_at hl 0 rfl) ?_
  refine lv_sipush (v := (138)) hx hb dX11_init_241 (by decide) ?_
  refine a_newarr C hP hS hsz (by omega) (Or.inl ⟨rfl, rfl⟩) (kd_X11_29 hk) (by decide) (by decide) (by decide) ac_int (hZ (k + 29) (Nat.le_refl _)).1 (hZ (k + 29) (Nat.le_refl _)).2.1 (by decide) (by decide) dX11_init_244 (fun H hP hS hsz _ => ?_)
  have hP : fP (wz w k (k + 30) (zs (zs (zs (zs (zs (zs (zs (zs (zs (zs (zs (zs (zs (zs (zs (zs (zs (zs (zs (zs (zs (zs (zs (zs (zs (zs (zs (zs z k 1) k 3) k 4) k 5) k 6) k 7) k 8) k 9) k 10) k 11) k 12) k 13) k 14) k 15) k 16) k 17) k 18) k 19) k 20) k 34) k 35) k 37) k 38) k 39) k 40) k 41) k 42) k 43)) (sI μ0 k 31 (-1)) H := hP
  have hsz : H.size = w.2.2.1 (k + 30) := hsz
  have hZ : Z0 (k + 30) (sI μ0 k 31 (-1)) (zs (zs (zs (zs (zs (zs (zs (zs (zs (zs (zs (zs (zs (zs (zs (zs (zs (zs (zs (zs (zs (zs (zs (zs (zs (zs (zs (zs z k 1) k 3) k 4) k 5) k 6) k 7) k 8) k 9) k 10) k 11) k 12) k 13) k 14) k 15) k 16) k 17) k 18) k 19) k 20) k 34) k 35) k 37) k 38) k 39) k 40) k 41) k 42) k 43) := hZ.mono (by omega)
  refine a_p3 C hP hS (hA (by omega)) (by omega) (v := k + 29) ⟨Nat.le_refl _, by omega⟩ hk ff_X11_99 rfl rfl (fun _ => ⟨rfl, rfl⟩) rfl dX11_init_246 (fun H locs hP hS hs9 => ?_)
  rw [hsz] at hs9
  have hsz := hs9
  have hZ : Z0 (k + 30) (sI μ0 k 31 (-1)) (zs (zs (zs (zs (zs (zs (zs (zs (zs (zs (zs (zs (zs (zs (zs (zs (zs (zs (zs (zs (zs (zs (zs (zs (zs (zs (zs (zs (zs z k 1) k 3) k 4) k 5) k 6) k 7) k 8) k 9) k 10) k 11) k 12) k 13) k 14) k 15) k 16) k 17) k 18) k 19) k 20) k 34) k 35) k 37) k 38) k 39) k 40) k 41) k 42) k 43) k 44) := hZ.zs (by omega)
  refine lv_aload_n hx hb dX11_init_249 rfl (lv_at hl 0 rfl) ?_
  refine lv_iconst (v := (-1)) hx hb dX11_init_250 (by decide) ?_
  refine a_p0 C hP hS (hA (by omega)) (by omega) ⟨Nat.le_refl _, by omega⟩ hk fp_X11_102 (Or.inl ⟨rfl, rfl⟩) dX11_init_251 (fun H locs hP hS hs9 => ?_)
  rw [hsz] at hs9
  have hsz := hs9
  have hZ : Z0 (k + 30) (sI (sI μ0 k 31 (-1)) k 48 (-1)) (zs (zs (zs (zs (zs (zs (zs (zs (zs (zs (zs (zs (zs (zs (zs (zs (zs (zs (zs (zs (zs (zs (zs (zs (zs (zs (zs (zs (zs z k 1) k 3) k 4) k 5) k 6) k 7) k 8) k 9) k 10) k 11) k 12) k 13) k 14) k 15) k 16) k 17) k 18) k 19) k 20) k 34) k 35) k 37) k 38) k 39) k 40) k 41) k 42) k 43) k 44) := hZ.sI (by omega)
  refine lv_aload_n hx hb dX11_init_254 rfl (lv_at hl 0 rfl) ?_
  refine lv_iconst (v := (-1)) hx hb dX11_init_255 (by decide) ?_
  refine a_p0 C hP hS (hA (by omega)) (by omega) ⟨Nat.le_refl _, by omega⟩ hk fp_X11_105 (Or.inl ⟨rfl, rfl⟩) dX11_init_256 (fun H locs hP hS hs9 => ?_)
  rw [hsz] at hs9
  have hsz := hs9
  have hZ : Z0 (k + 30) (sI (sI (sI μ0 k 31 (-1)) k 48 (-1)) k 49 (-1)) (zs (zs (zs (zs (zs (zs (zs (zs (zs (zs (zs (zs (zs (zs (zs (zs (zs (zs (zs (zs (zs (zs (zs (zs (zs (zs (zs (zs (zs z k 1) k 3) k 4) k 5) k 6) k 7) k 8) k 9) k 10) k 11) k 12) k 13) k 14) k 15) k 16) k 17) k 18) k 19) k 20) k 34) k 35) k 37) k 38) k 39) k 40) k 41) k 42) k 43) k 44) := hZ.sI (by omega)
  refine lv_aload_n hx hb dX11_init_259 rfl (lv_at hl 0 rfl) ?_
  refine lv_iconst (v := (-1)) hx hb dX11_init_260 (by decide) ?_
  refine a_p0 C hP hS (hA (by omega)) (by omega) ⟨Nat.le_refl _, by omega⟩ hk fp_X11_108 (Or.inl ⟨rfl, rfl⟩) dX11_init_261 (fun H locs hP hS hs9 => ?_)
  rw [hsz] at hs9
  have hsz := hs9
  have hZ : Z0 (k + 30) (sI (sI (sI (sI μ0 k 31 (-1)) k 48 (-1)) k 49 (-1)) k 50 (-1)) (zs (zs (zs (zs (zs (zs (zs (zs (zs (zs (zs (zs (zs (zs (zs (zs (zs (zs (zs (zs (zs (zs (zs (zs (zs (zs (zs (zs (zs z k 1) k 3) k 4) k 5) k 6) k 7) k 8) k 9) k 10) k 11) k 12) k 13) k 14) k 15) k 16) k 17) k 18) k 19) k 20) k 34) k 35) k 37) k 38) k 39) k 40) k 41) k 42) k 43) k 44) := hZ.sI (by omega)
  refine lv_aload_n hx hb dX11_init_264 rfl (lv_at hl 0 rfl) ?_
  refine lv_iconst (v := (4)) hx hb dX11_init_265 (by decide) ?_
  refine a_newarr C hP hS hsz (by omega) (Or.inl ⟨rfl, rfl⟩) (kd_X11_30 hk) (by decide) (by decide) (by decide) ac_int (hZ (k + 30) (Nat.le_refl _)).1 (hZ (k + 30) (Nat.le_refl _)).2.1 (by decide) (by decide) dX11_init_266 (fun H hP hS hsz _ => ?_)
  have hP : fP (wz w k (k + 31) (zs (zs (zs (zs (zs (zs (zs (zs (zs (zs (zs (zs (zs (zs (zs (zs (zs (zs (zs (zs (zs (zs (zs (zs (zs (zs (zs (zs (zs z k 1) k 3) k 4) k 5) k 6) k 7) k 8) k 9) k 10) k 11) k 12) k 13) k 14) k 15) k 16) k 17) k 18) k 19) k 20) k 34) k 35) k 37) k 38) k 39) k 40) k 41) k 42) k 43) k 44)) (sI (sI (sI (sI μ0 k 31 (-1)) k 48 (-1)) k 49 (-1)) k 50 (-1)) H := hP
  have hsz : H.size = w.2.2.1 (k + 31) := hsz
  have hZ : Z0 (k + 31) (sI (sI (sI (sI μ0 k 31 (-1)) k 48 (-1)) k 49 (-1)) k 50 (-1)) (zs (zs (zs (zs (zs (zs (zs (zs (zs (zs (zs (zs (zs (zs (zs (zs (zs (zs (zs (zs (zs (zs (zs (zs (zs (zs (zs (zs (zs z k 1) k 3) k 4) k 5) k 6) k 7) k 8) k 9) k 10) k 11) k 12) k 13) k 14) k 15) k 16) k 17) k 18) k 19) k 20) k 34) k 35) k 37) k 38) k 39) k 40) k 41) k 42) k 43) k 44) := hZ.mono (by omega)
  refine a_p3 C hP hS (hA (by omega)) (by omega) (v := k + 30) ⟨Nat.le_refl _, by omega⟩ hk ff_X11_111 rfl rfl (fun _ => ⟨rfl, rfl⟩) rfl dX11_init_268 (fun H locs hP hS hs9 => ?_)
  rw [hsz] at hs9
  have hsz := hs9
  have hZ : Z0 (k + 31) (sI (sI (sI (sI μ0 k 31 (-1)) k 48 (-1)) k 49 (-1)) k 50 (-1)) (zs (zs (zs (zs (zs (zs (zs (zs (zs (zs (zs (zs (zs (zs (zs (zs (zs (zs (zs (zs (zs (zs (zs (zs (zs (zs (zs (zs (zs (zs z k 1) k 3) k 4) k 5) k 6) k 7) k 8) k 9) k 10) k 11) k 12) k 13) k 14) k 15) k 16) k 17) k 18) k 19) k 20) k 34) k 35) k 37) k 38) k 39) k 40) k 41) k 42) k 43) k 44) k 52) := hZ.zs (by omega)
  refine lv_aload_n hx hb dX11_init_271 rfl (lv_at hl 0 rfl) ?_
  refine lv_bipush (v := (12)) hx hb dX11_init_272 (by decide) ?_
  refine a_newarr C hP hS hsz (by omega) (Or.inl ⟨rfl, rfl⟩) (kd_X11_31 hk) (by decide) (by decide) (by decide) ac_int (hZ (k + 31) (Nat.le_refl _)).1 (hZ (k + 31) (Nat.le_refl _)).2.1 (by decide) (by decide) dX11_init_274 (fun H hP hS hsz _ => ?_)
  have hP : fP (wz w k (k + 32) (zs (zs (zs (zs (zs (zs (zs (zs (zs (zs (zs (zs (zs (zs (zs (zs (zs (zs (zs (zs (zs (zs (zs (zs (zs (zs (zs (zs (zs (zs z k 1) k 3) k 4) k 5) k 6) k 7) k 8) k 9) k 10) k 11) k 12) k 13) k 14) k 15) k 16) k 17) k 18) k 19) k 20) k 34) k 35) k 37) k 38) k 39) k 40) k 41) k 42) k 43) k 44) k 52)) (sI (sI (sI (sI μ0 k 31 (-1)) k 48 (-1)) k 49 (-1)) k 50 (-1)) H := hP
  have hsz : H.size = w.2.2.1 (k + 32) := hsz
  have hZ : Z0 (k + 32) (sI (sI (sI (sI μ0 k 31 (-1)) k 48 (-1)) k 49 (-1)) k 50 (-1)) (zs (zs (zs (zs (zs (zs (zs (zs (zs (zs (zs (zs (zs (zs (zs (zs (zs (zs (zs (zs (zs (zs (zs (zs (zs (zs (zs (zs (zs (zs z k 1) k 3) k 4) k 5) k 6) k 7) k 8) k 9) k 10) k 11) k 12) k 13) k 14) k 15) k 16) k 17) k 18) k 19) k 20) k 34) k 35) k 37) k 38) k 39) k 40) k 41) k 42) k 43) k 44) k 52) := hZ.mono (by omega)
  refine a_p3 C hP hS (hA (by omega)) (by omega) (v := k + 31) ⟨Nat.le_refl _, by omega⟩ hk ff_X11_114 rfl rfl (fun _ => ⟨rfl, rfl⟩) rfl dX11_init_276 (fun H locs hP hS hs9 => ?_)
  rw [hsz] at hs9
  have hsz := hs9
  have hZ : Z0 (k + 32) (sI (sI (sI (sI μ0 k 31 (-1)) k 48 (-1)) k 49 (-1)) k 50 (-1)) (zs (zs (zs (zs (zs (zs (zs (zs (zs (zs (zs (zs (zs (zs (zs (zs (zs (zs (zs (zs (zs (zs (zs (zs (zs (zs (zs (zs (zs (zs (zs z k 1) k 3) k 4) k 5) k 6) k 7) k 8) k 9) k 10) k 11) k 12) k 13) k 14) k 15) k 16) k 17) k 18) k 19) k 20) k 34) k 35) k 37) k 38) k 39) k 40) k 41) k 42) k 43) k 44) k 52) k 54) := hZ.zs (by omega)
  refine lv_aload_n hx hb dX11_init_279 rfl (lv_at hl 0 rfl) ?_
  refine lv_bipush (v := (6)) hx hb dX11_init_280 (by decide) ?_
  refine a_newarr C hP hS hsz (by omega) (Or.inl ⟨rfl, rfl⟩) (kd_X11_32 hk) (by decide) (by decide) (by decide) ac_int (hZ (k + 32) (Nat.le_refl _)).1 (hZ (k + 32) (Nat.le_refl _)).2.1 (by decide) (by decide) dX11_init_282 (fun H hP hS hsz _ => ?_)
  have hP : fP (wz w k (k + 33) (zs (zs (zs (zs (zs (zs (zs (zs (zs (zs (zs (zs (zs (zs (zs (zs (zs (zs (zs (zs (zs (zs (zs (zs (zs (zs (zs (zs (zs (zs (zs z k 1) k 3) k 4) k 5) k 6) k 7) k 8) k 9) k 10) k 11) k 12) k 13) k 14) k 15) k 16) k 17) k 18) k 19) k 20) k 34) k 35) k 37) k 38) k 39) k 40) k 41) k 42) k 43) k 44) k 52) k 54)) (sI (sI (sI (sI μ0 k 31 (-1)) k 48 (-1)) k 49 (-1)) k 50 (-1)) H := hP
  have hsz : H.size = w.2.2.1 (k + 33) := hsz
  have hZ : Z0 (k + 33) (sI (sI (sI (sI μ0 k 31 (-1)) k 48 (-1)) k 49 (-1)) k 50 (-1)) (zs (zs (zs (zs (zs (zs (zs (zs (zs (zs (zs (zs (zs (zs (zs (zs (zs (zs (zs (zs (zs (zs (zs (zs (zs (zs (zs (zs (zs (zs (zs z k 1) k 3) k 4) k 5) k 6) k 7) k 8) k 9) k 10) k 11) k 12) k 13) k 14) k 15) k 16) k 17) k 18) k 19) k 20) k 34) k 35) k 37) k 38) k 39) k 40) k 41) k 42) k 43) k 44) k 52) k 54) := hZ.mono (by omega)
  refine a_p3 C hP hS (hA (by omega)) (by omega) (v := k + 32) ⟨Nat.le_refl _, by omega⟩ hk ff_X11_117 rfl rfl (fun _ => ⟨rfl, rfl⟩) rfl dX11_init_284 (fun H locs hP hS hs9 => ?_)
  rw [hsz] at hs9
  have hsz := hs9
  have hZ : Z0 (k + 33) (sI (sI (sI (sI μ0 k 31 (-1)) k 48 (-1)) k 49 (-1)) k 50 (-1)) (zs (zs (zs (zs (zs (zs (zs (zs (zs (zs (zs (zs (zs (zs (zs (zs (zs (zs (zs (zs (zs (zs (zs (zs (zs (zs (zs (zs (zs (zs (zs (zs z k 1) k 3) k 4) k 5) k 6) k 7) k 8) k 9) k 10) k 11) k 12) k 13) k 14) k 15) k 16) k 17) k 18) k 19) k 20) k 34) k 35) k 37) k 38) k 39) k 40) k 41) k 42) k 43) k 44) k 52) k 54) k 55) := hZ.zs (by omega)
  refine lv_aload_n hx hb dX11_init_287 rfl (lv_at hl 0 rfl) ?_
  refine lv_bipush (v := (6)) hx hb dX11_init_288 (by decide) ?_
  refine a_newarr C hP hS hsz (by omega) (Or.inl ⟨rfl, rfl⟩) (kd_X11_33 hk) (by decide) (by decide) (by decide) ac_int (hZ (k + 33) (Nat.le_refl _)).1 (hZ (k + 33) (Nat.le_refl _)).2.1 (by decide) (by decide) dX11_init_290 (fun H hP hS hsz _ => ?_)
  have hP : fP (wz w k (k + 34) (zs (zs (zs (zs (zs (zs (zs (zs (zs (zs (zs (zs (zs (zs (zs (zs (zs (zs (zs (zs (zs (zs (zs (zs (zs (zs (zs (zs (zs (zs (zs (zs z k 1) k 3) k 4) k 5) k 6) k 7) k 8) k 9) k 10) k 11) k 12) k 13) k 14) k 15) k 16) k 17) k 18) k 19) k 20) k 34) k 35) k 37) k 38) k 39) k 40) k 41) k 42) k 43) k 44) k 52) k 54) k 55)) (sI (sI (sI (sI μ0 k 31 (-1)) k 48 (-1)) k 49 (-1)) k 50 (-1)) H := hP
  have hsz : H.size = w.2.2.1 (k + 34) := hsz
  have hZ : Z0 (k + 34) (sI (sI (sI (sI μ0 k 31 (-1)) k 48 (-1)) k 49 (-1)) k 50 (-1)) (zs (zs (zs (zs (zs (zs (zs (zs (zs (zs (zs (zs (zs (zs (zs (zs (zs (zs (zs (zs (zs (zs (zs (zs (zs (zs (zs (zs (zs (zs (zs (zs z k 1) k 3) k 4) k 5) k 6) k 7) k 8) k 9) k 10) k 11) k 12) k 13) k 14) k 15) k 16) k 17) k 18) k 19) k 20) k 34) k 35) k 37) k 38) k 39) k 40) k 41) k 42) k 43) k 44) k 52) k 54) k 55) := hZ.mono (by omega)
  refine a_p3 C hP hS (hA (by omega)) (by omega) (v := k + 33) ⟨Nat.le_refl _, by omega⟩ hk ff_X11_120 rfl rfl (fun _ => ⟨rfl, rfl⟩) rfl dX11_init_292 (fun H locs hP hS hs9 => ?_)
  rw [hsz] at hs9
  have hsz := hs9
  have hZ : Z0 (k + 34) (sI (sI (sI (sI μ0 k 31 (-1)) k 48 (-1)) k 49 (-1)) k 50 (-1)) (zs (zs (zs (zs (zs (zs (zs (zs (zs (zs (zs (zs (zs (zs (zs (zs (zs (zs (zs (zs (zs (zs (zs (zs (zs (zs (zs (zs (zs (zs (zs (zs (zs z k 1) k 3) k 4) k 5) k 6) k 7) k 8) k 9) k 10) k 11) k 12) k 13) k 14) k 15) k 16) k 17) k 18) k 19) k 20) k 34) k 35) k 37) k 38) k 39) k 40) k 41) k 42) k 43) k 44) k 52) k 54) k 55) k 56) := hZ.zs (by omega)
  refine lv_aload_n hx hb dX11_init_295 rfl (lv_at hl 0 rfl) ?_
  refine lv_iconst (v := (-1)) hx hb dX11_init_296 (by decide) ?_
  refine a_p0 C hP hS (hA (by omega)) (by omega) ⟨Nat.le_refl _, by omega⟩ hk fp_X11_123 (Or.inl ⟨rfl, rfl⟩) dX11_init_297 (fun H locs hP hS hs9 => ?_)
  rw [hsz] at hs9
  have hsz := hs9
  have hZ : Z0 (k + 34) (sI (sI (sI (sI (sI μ0 k 31 (-1)) k 48 (-1)) k 49 (-1)) k 50 (-1)) k 58 (-1)) (zs (zs (zs (zs (zs (zs (zs (zs (zs (zs (zs (zs (zs (zs (zs (zs (zs (zs (zs (zs (zs (zs (zs (zs (zs (zs (zs (zs (zs (zs (zs (zs (zs z k 1) k 3) k 4) k 5) k 6) k 7) k 8) k 9) k 10) k 11) k 12) k 13) k 14) k 15) k 16) k 17) k 18) k 19) k 20) k 34) k 35) k 37) k 38) k 39) k 40) k 41) k 42) k 43) k 44) k 52) k 54) k 55) k 56) := hZ.sI (by omega)
  refine lv_aload_n hx hb dX11_init_300 rfl (lv_at hl 0 rfl) ?_
  refine lv_bipush (v := (24)) hx hb dX11_init_301 (by decide) ?_
  refine a_newarr C hP hS hsz (by omega) (Or.inl ⟨rfl, rfl⟩) (kd_X11_34 hk) (by decide) (by decide) (by decide) ac_int (hZ (k + 34) (Nat.le_refl _)).1 (hZ (k + 34) (Nat.le_refl _)).2.1 (by decide) (by decide) dX11_init_303 (fun H hP hS hsz _ => ?_)
  have hP : fP (wz w k (k + 35) (zs (zs (zs (zs (zs (zs (zs (zs (zs (zs (zs (zs (zs (zs (zs (zs (zs (zs (zs (zs (zs (zs (zs (zs (zs (zs (zs (zs (zs (zs (zs (zs (zs z k 1) k 3) k 4) k 5) k 6) k 7) k 8) k 9) k 10) k 11) k 12) k 13) k 14) k 15) k 16) k 17) k 18) k 19) k 20) k 34) k 35) k 37) k 38) k 39) k 40) k 41) k 42) k 43) k 44) k 52) k 54) k 55) k 56)) (sI (sI (sI (sI (sI μ0 k 31 (-1)) k 48 (-1)) k 49 (-1)) k 50 (-1)) k 58 (-1)) H := hP
  have hsz : H.size = w.2.2.1 (k + 35) := hsz
  have hZ : Z0 (k + 35) (sI (sI (sI (sI (sI μ0 k 31 (-1)) k 48 (-1)) k 49 (-1)) k 50 (-1)) k 58 (-1)) (zs (zs (zs (zs (zs (zs (zs (zs (zs (zs (zs (zs (zs (zs (zs (zs (zs (zs (zs (zs (zs (zs (zs (zs (zs (zs (zs (zs (zs (zs (zs (zs (zs z k 1) k 3) k 4) k 5) k 6) k 7) k 8) k 9) k 10) k 11) k 12) k 13) k 14) k 15) k 16) k 17) k 18) k 19) k 20) k 34) k 35) k 37) k 38) k 39) k 40) k 41) k 42) k 43) k 44) k 52) k 54) k 55) k 56) := hZ.mono (by omega)
  refine a_p3 C hP hS (hA (by omega)) (by omega) (v := k + 34) ⟨Nat.le_refl _, by omega⟩ hk ff_X11_126 rfl rfl (fun _ => ⟨rfl, rfl⟩) rfl dX11_init_305 (fun H locs hP hS hs9 => ?_)
  rw [hsz] at hs9
  have hsz := hs9
  have hZ : Z0 (k + 35) (sI (sI (sI (sI (sI μ0 k 31 (-1)) k 48 (-1)) k 49 (-1)) k 50 (-1)) k 58 (-1)) (zs (zs (zs (zs (zs (zs (zs (zs (zs (zs (zs (zs (zs (zs (zs (zs (zs (zs (zs (zs (zs (zs (zs (zs (zs (zs (zs (zs (zs (zs (zs (zs (zs (zs z k 1) k 3) k 4) k 5) k 6) k 7) k 8) k 9) k 10) k 11) k 12) k 13) k 14) k 15) k 16) k 17) k 18) k 19) k 20) k 34) k 35) k 37) k 38) k 39) k 40) k 41) k 42) k 43) k 44) k 52) k 54) k 55) k 56) k 59) := hZ.zs (by omega)
  refine lv_aload_n hx hb dX11_init_308 rfl (lv_at hl 0 rfl) ?_
  refine lv_bipush (v := (24)) hx hb dX11_init_309 (by decide) ?_
  refine a_newarr C hP hS hsz (by omega) (Or.inl ⟨rfl, rfl⟩) (kd_X11_35 hk) (by decide) (by decide) (by decide) ac_int (hZ (k + 35) (Nat.le_refl _)).1 (hZ (k + 35) (Nat.le_refl _)).2.1 (by decide) (by decide) dX11_init_311 (fun H hP hS hsz _ => ?_)
  have hP : fP (wz w k (k + 36) (zs (zs (zs (zs (zs (zs (zs (zs (zs (zs (zs (zs (zs (zs (zs (zs (zs (zs (zs (zs (zs (zs (zs (zs (zs (zs (zs (zs (zs (zs (zs (zs (zs (zs z k 1) k 3) k 4) k 5) k 6) k 7) k 8) k 9) k 10) k 11) k 12) k 13) k 14) k 15) k 16) k 17) k 18) k 19) k 20) k 34) k 35) k 37) k 38) k 39) k 40) k 41) k 42) k 43) k 44) k 52) k 54) k 55) k 56) k 59)) (sI (sI (sI (sI (sI μ0 k 31 (-1)) k 48 (-1)) k 49 (-1)) k 50 (-1)) k 58 (-1)) H := hP
  have hsz : H.size = w.2.2.1 (k + 36) := hsz
  have hZ : Z0 (k + 36) (sI (sI (sI (sI (sI μ0 k 31 (-1)) k 48 (-1)) k 49 (-1)) k 50 (-1)) k 58 (-1)) (zs (zs (zs (zs (zs (zs (zs (zs (zs (zs (zs (zs (zs (zs (zs (zs (zs (zs (zs (zs (zs (zs (zs (zs (zs (zs (zs (zs (zs (zs (zs (zs (zs (zs z k 1) k 3) k 4) k 5) k 6) k 7) k 8) k 9) k 10) k 11) k 12) k 13) k 14) k 15) k 16) k 17) k 18) k 19) k 20) k 34) k 35) k 37) k 38) k 39) k 40) k 41) k 42) k 43) k 44) k 52) k 54) k 55) k 56) k 59) := hZ.mono (by omega)
  refine a_p3 C hP hS (hA (by omega)) (by omega) (v := k + 35) ⟨Nat.le_refl _, by omega⟩ hk ff_X11_129 rfl rfl (fun _ => ⟨rfl, rfl⟩) rfl dX11_init_313 (fun H locs hP hS hs9 => ?_)
  rw [hsz] at hs9
  have hsz := hs9
  have hZ : Z0 (k + 36) (sI (sI (sI (sI (sI μ0 k 31 (-1)) k 48 (-1)) k 49 (-1)) k 50 (-1)) k 58 (-1)) (zs (zs (zs (zs (zs (zs (zs (zs (zs (zs (zs (zs (zs (zs (zs (zs (zs (zs (zs (zs (zs (zs (zs (zs (zs (zs (zs (zs (zs (zs (zs (zs (zs (zs (zs z k 1) k 3) k 4) k 5) k 6) k 7) k 8) k 9) k 10) k 11) k 12) k 13) k 14) k 15) k 16) k 17) k 18) k 19) k 20) k 34) k 35) k 37) k 38) k 39) k 40) k 41) k 42) k 43) k 44) k 52) k 54) k 55) k 56) k 59) k 60) := hZ.zs (by omega)
  refine lv_aload_n hx hb dX11_init_316 rfl (lv_at hl 0 rfl) ?_
  refine lv_bipush (v := (24)) hx hb dX11_init_317 (by decide) ?_
  refine a_newarr C hP hS hsz (by omega) (Or.inl ⟨rfl, rfl⟩) (kd_X11_36 hk) (by decide) (by decide) (by decide) ac_int (hZ (k + 36) (Nat.le_refl _)).1 (hZ (k + 36) (Nat.le_refl _)).2.1 (by decide) (by decide) dX11_init_319 (fun H hP hS hsz _ => ?_)
  have hP : fP (wz w k (k + 37) (zs (zs (zs (zs (zs (zs (zs (zs (zs (zs (zs (zs (zs (zs (zs (zs (zs (zs (zs (zs (zs (zs (zs (zs (zs (zs (zs (zs (zs (zs (zs (zs (zs (zs (zs z k 1) k 3) k 4) k 5) k 6) k 7) k 8) k 9) k 10) k 11) k 12) k 13) k 14) k 15) k 16) k 17) k 18) k 19) k 20) k 34) k 35) k 37) k 38) k 39) k 40) k 41) k 42) k 43) k 44) k 52) k 54) k 55) k 56) k 59) k 60)) (sI (sI (sI (sI (sI μ0 k 31 (-1)) k 48 (-1)) k 49 (-1)) k 50 (-1)) k 58 (-1)) H := hP
  have hsz : H.size = w.2.2.1 (k + 37) := hsz
  have hZ : Z0 (k + 37) (sI (sI (sI (sI (sI μ0 k 31 (-1)) k 48 (-1)) k 49 (-1)) k 50 (-1)) k 58 (-1)) (zs (zs (zs (zs (zs (zs (zs (zs (zs (zs (zs (zs (zs (zs (zs (zs (zs (zs (zs (zs (zs (zs (zs (zs (zs (zs (zs (zs (zs (zs (zs (zs (zs (zs (zs z k 1) k 3) k 4) k 5) k 6) k 7) k 8) k 9) k 10) k 11) k 12) k 13) k 14) k 15) k 16) k 17) k 18) k 19) k 20) k 34) k 35) k 37) k 38) k 39) k 40) k 41) k 42) k 43) k 44) k 52) k 54) k 55) k 56) k 59) k 60) := hZ.mono (by omega)
  refine a_p3 C hP hS (hA (by omega)) (by omega) (v := k + 36) ⟨Nat.le_refl _, by omega⟩ hk ff_X11_132 rfl rfl (fun _ => ⟨rfl, rfl⟩) rfl dX11_init_321 (fun H locs hP hS hs9 => ?_)
  rw [hsz] at hs9
  have hsz := hs9
  have hZ : Z0 (k + 37) (sI (sI (sI (sI (sI μ0 k 31 (-1)) k 48 (-1)) k 49 (-1)) k 50 (-1)) k 58 (-1)) (zs (zs (zs (zs (zs (zs (zs (zs (zs (zs (zs (zs (zs (zs (zs (zs (zs (zs (zs (zs (zs (zs (zs (zs (zs (zs (zs (zs (zs (zs (zs (zs (zs (zs (zs (zs z k 1) k 3) k 4) k 5) k 6) k 7) k 8) k 9) k 10) k 11) k 12) k 13) k 14) k 15) k 16) k 17) k 18) k 19) k 20) k 34) k 35) k 37) k 38) k 39) k 40) k 41) k 42) k 43) k 44) k 52) k 54) k 55) k 56) k 59) k 60) k 61) := hZ.zs (by omega)
  refine lv_aload_n hx hb dX11_init_324 rfl (lv_at hl 0 rfl) ?_
  refine lv_bipush (v := (24)) hx hb dX11_init_325 (by decide) ?_
  refine a_newarr C hP hS hsz (by omega) (Or.inr (Or.inl ⟨rfl, rfl⟩)) (kd_X11_37 hk) (by decide) (by decide) (by decide) ac_boolean (hZ (k + 37) (Nat.le_refl _)).1 (hZ (k + 37) (Nat.le_refl _)).2.1 (by decide) (by decide) dX11_init_327 (fun H hP hS hsz _ => ?_)
  have hP : fP (wz w k (k + 38) (zs (zs (zs (zs (zs (zs (zs (zs (zs (zs (zs (zs (zs (zs (zs (zs (zs (zs (zs (zs (zs (zs (zs (zs (zs (zs (zs (zs (zs (zs (zs (zs (zs (zs (zs (zs z k 1) k 3) k 4) k 5) k 6) k 7) k 8) k 9) k 10) k 11) k 12) k 13) k 14) k 15) k 16) k 17) k 18) k 19) k 20) k 34) k 35) k 37) k 38) k 39) k 40) k 41) k 42) k 43) k 44) k 52) k 54) k 55) k 56) k 59) k 60) k 61)) (sI (sI (sI (sI (sI μ0 k 31 (-1)) k 48 (-1)) k 49 (-1)) k 50 (-1)) k 58 (-1)) H := hP
  have hsz : H.size = w.2.2.1 (k + 38) := hsz
  have hZ : Z0 (k + 38) (sI (sI (sI (sI (sI μ0 k 31 (-1)) k 48 (-1)) k 49 (-1)) k 50 (-1)) k 58 (-1)) (zs (zs (zs (zs (zs (zs (zs (zs (zs (zs (zs (zs (zs (zs (zs (zs (zs (zs (zs (zs (zs (zs (zs (zs (zs (zs (zs (zs (zs (zs (zs (zs (zs (zs (zs (zs z k 1) k 3) k 4) k 5) k 6) k 7) k 8) k 9) k 10) k 11) k 12) k 13) k 14) k 15) k 16) k 17) k 18) k 19) k 20) k 34) k 35) k 37) k 38) k 39) k 40) k 41) k 42) k 43) k 44) k 52) k 54) k 55) k 56) k 59) k 60) k 61) := hZ.mono (by omega)
  refine a_p3 C hP hS (hA (by omega)) (by omega) (v := k + 37) ⟨Nat.le_refl _, by omega⟩ hk ff_X11_135 rfl rfl (fun _ => ⟨rfl, rfl⟩) rfl dX11_init_329 (fun H locs hP hS hs9 => ?_)
  rw [hsz] at hs9
  have hsz := hs9
  have hZ : Z0 (k + 38) (sI (sI (sI (sI (sI μ0 k 31 (-1)) k 48 (-1)) k 49 (-1)) k 50 (-1)) k 58 (-1)) (zs (zs (zs (zs (zs (zs (zs (zs (zs (zs (zs (zs (zs (zs (zs (zs (zs (zs (zs (zs (zs (zs (zs (zs (zs (zs (zs (zs (zs (zs (zs (zs (zs (zs (zs (zs (zs z k 1) k 3) k 4) k 5) k 6) k 7) k 8) k 9) k 10) k 11) k 12) k 13) k 14) k 15) k 16) k 17) k 18) k 19) k 20) k 34) k 35) k 37) k 38) k 39) k 40) k 41) k 42) k 43) k 44) k 52) k 54) k 55) k 56) k 59) k 60) k 61) k 62) := hZ.zs (by omega)
  refine lv_aload_n hx hb dX11_init_332 rfl (lv_at hl 0 rfl) ?_
  refine lv_bipush (v := (24)) hx hb dX11_init_333 (by decide) ?_
  refine a_newarr C hP hS hsz (by omega) (Or.inl ⟨rfl, rfl⟩) (kd_X11_38 hk) (by decide) (by decide) (by decide) ac_int (hZ (k + 38) (Nat.le_refl _)).1 (hZ (k + 38) (Nat.le_refl _)).2.1 (by decide) (by decide) dX11_init_335 (fun H hP hS hsz _ => ?_)
  have hP : fP (wz w k (k + 39) (zs (zs (zs (zs (zs (zs (zs (zs (zs (zs (zs (zs (zs (zs (zs (zs (zs (zs (zs (zs (zs (zs (zs (zs (zs (zs (zs (zs (zs (zs (zs (zs (zs (zs (zs (zs (zs z k 1) k 3) k 4) k 5) k 6) k 7) k 8) k 9) k 10) k 11) k 12) k 13) k 14) k 15) k 16) k 17) k 18) k 19) k 20) k 34) k 35) k 37) k 38) k 39) k 40) k 41) k 42) k 43) k 44) k 52) k 54) k 55) k 56) k 59) k 60) k 61) k 62)) (sI (sI (sI (sI (sI μ0 k 31 (-1)) k 48 (-1)) k 49 (-1)) k 50 (-1)) k 58 (-1)) H := hP
  have hsz : H.size = w.2.2.1 (k + 39) := hsz
  have hZ : Z0 (k + 39) (sI (sI (sI (sI (sI μ0 k 31 (-1)) k 48 (-1)) k 49 (-1)) k 50 (-1)) k 58 (-1)) (zs (zs (zs (zs (zs (zs (zs (zs (zs (zs (zs (zs (zs (zs (zs (zs (zs (zs (zs (zs (zs (zs (zs (zs (zs (zs (zs (zs (zs (zs (zs (zs (zs (zs (zs (zs (zs z k 1) k 3) k 4) k 5) k 6) k 7) k 8) k 9) k 10) k 11) k 12) k 13) k 14) k 15) k 16) k 17) k 18) k 19) k 20) k 34) k 35) k 37) k 38) k 39) k 40) k 41) k 42) k 43) k 44) k 52) k 54) k 55) k 56) k 59) k 60) k 61) k 62) := hZ.mono (by omega)
  refine a_p3 C hP hS (hA (by omega)) (by omega) (v := k + 38) ⟨Nat.le_refl _, by omega⟩ hk ff_X11_139 rfl rfl (fun _ => ⟨rfl, rfl⟩) rfl dX11_init_337 (fun H locs hP hS hs9 => ?_)
  rw [hsz] at hs9
  have hsz := hs9
  have hZ : Z0 (k + 39) (sI (sI (sI (sI (sI μ0 k 31 (-1)) k 48 (-1)) k 49 (-1)) k 50 (-1)) k 58 (-1)) (zs (zs (zs (zs (zs (zs (zs (zs (zs (zs (zs (zs (zs (zs (zs (zs (zs (zs (zs (zs (zs (zs (zs (zs (zs (zs (zs (zs (zs (zs (zs (zs (zs (zs (zs (zs (zs (zs z k 1) k 3) k 4) k 5) k 6) k 7) k 8) k 9) k 10) k 11) k 12) k 13) k 14) k 15) k 16) k 17) k 18) k 19) k 20) k 34) k 35) k 37) k 38) k 39) k 40) k 41) k 42) k 43) k 44) k 52) k 54) k 55) k 56) k 59) k 60) k 61) k 62) k 63) := hZ.zs (by omega)
  refine lv_aload_n hx hb dX11_init_340 rfl (lv_at hl 0 rfl) ?_
  refine lv_bipush (v := (24)) hx hb dX11_init_341 (by decide) ?_
  refine a_newarr C hP hS hsz (by omega) (Or.inr (Or.inl ⟨rfl, rfl⟩)) (kd_X11_39 hk) (by decide) (by decide) (by decide) ac_boolean (hZ (k + 39) (Nat.le_refl _)).1 (hZ (k + 39) (Nat.le_refl _)).2.1 (by decide) (by decide) dX11_init_343 (fun H hP hS hsz _ => ?_)
  have hP : fP (wz w k (k + 40) (zs (zs (zs (zs (zs (zs (zs (zs (zs (zs (zs (zs (zs (zs (zs (zs (zs (zs (zs (zs (zs (zs (zs (zs (zs (zs (zs (zs (zs (zs (zs (zs (zs (zs (zs (zs (zs (zs z k 1) k 3) k 4) k 5) k 6) k 7) k 8) k 9) k 10) k 11) k 12) k 13) k 14) k 15) k 16) k 17) k 18) k 19) k 20) k 34) k 35) k 37) k 38) k 39) k 40) k 41) k 42) k 43) k 44) k 52) k 54) k 55) k 56) k 59) k 60) k 61) k 62) k 63)) (sI (sI (sI (sI (sI μ0 k 31 (-1)) k 48 (-1)) k 49 (-1)) k 50 (-1)) k 58 (-1)) H := hP
  have hsz : H.size = w.2.2.1 (k + 40) := hsz
  have hZ : Z0 (k + 40) (sI (sI (sI (sI (sI μ0 k 31 (-1)) k 48 (-1)) k 49 (-1)) k 50 (-1)) k 58 (-1)) (zs (zs (zs (zs (zs (zs (zs (zs (zs (zs (zs (zs (zs (zs (zs (zs (zs (zs (zs (zs (zs (zs (zs (zs (zs (zs (zs (zs (zs (zs (zs (zs (zs (zs (zs (zs (zs (zs z k 1) k 3) k 4) k 5) k 6) k 7) k 8) k 9) k 10) k 11) k 12) k 13) k 14) k 15) k 16) k 17) k 18) k 19) k 20) k 34) k 35) k 37) k 38) k 39) k 40) k 41) k 42) k 43) k 44) k 52) k 54) k 55) k 56) k 59) k 60) k 61) k 62) k 63) := hZ.mono (by omega)
  refine a_p3 C hP hS (hA (by omega)) (by omega) (v := k + 39) ⟨Nat.le_refl _, by omega⟩ hk ff_X11_142 rfl rfl (fun _ => ⟨rfl, rfl⟩) rfl dX11_init_345 (fun H locs hP hS hs9 => ?_)
  rw [hsz] at hs9
  have hsz := hs9
  have hZ : Z0 (k + 40) (sI (sI (sI (sI (sI μ0 k 31 (-1)) k 48 (-1)) k 49 (-1)) k 50 (-1)) k 58 (-1)) (zs (zs (zs (zs (zs (zs (zs (zs (zs (zs (zs (zs (zs (zs (zs (zs (zs (zs (zs (zs (zs (zs (zs (zs (zs (zs (zs (zs (zs (zs (zs (zs (zs (zs (zs (zs (zs (zs (zs z k 1) k 3) k 4) k 5) k 6) k 7) k 8) k 9) k 10) k 11) k 12) k 13) k 14) k 15) k 16) k 17) k 18) k 19) k 20) k 34) k 35) k 37) k 38) k 39) k 40) k 41) k 42) k 43) k 44) k 52) k 54) k 55) k 56) k 59) k 60) k 61) k 62) k 63) k 64) := hZ.zs (by omega)
  have hk1 : k = 181 := ko_11 hk
  subst hk1
  have hP : fP (wz w 181 221 (fun _ _ => true)) (mg μ0 ini 181 221) H := fP_congr (by decide) hP (fun a h1 h2 => by
    have q := fin_X11 hk h0 a h1 h2
    refine ⟨q.1, q.2.1, fun ci hci j hj h3 => ⟨((q.2.2 ci hci j hj h3).1).trans (if_pos ⟨h1, h2⟩), (q.2.2 ci hci j hj h3).2⟩⟩)
  have hbg : f_X11_begins 181 (mg μ0 ini 181 221) = some ((), mg μ0 ini 181 221) := begins_zero _ rfl rfl rfl rfl rfl rfl rfl rfl rfl
  refine lv_aload_n hx hb dX11_init_348 rfl (lv_at hl 0 rfl) ?_
  refine a_call (callV_run (w := wz w 181 221 (fun _ _ => true)) (As := []) (rest := []) (C.x (by decide)) hl hP (fun a h1 h2 => hS.2.1 a h1 (fun q => h2 (hAD.up0 (by decide) q))) ⟨show 181 ≤ 181 by decide, show 181 < 221 by decide⟩ hk (m_X11_begins l (wz w 181 221 (fun _ _ => true)) (hAD.J (by decide)) rfl 181 hk _ hbg) mv_X11_145 ⟨rfl, rfl, by decide, by decide⟩ rfl rfl (Nat.le_of_ble_eq_true rfl) ⟨by decide, by decide⟩ dX11_init_349) hS (hA (by decide)) (by rw [hsz, hs0, hAD _ (by decide), hAD (181 + 1) (by decide)]) (fun H locs hP hS hs9 => ?_)
  rw [hsz] at hs9
  have hsz := hs9
  have hP : fP (wz w 181 (181 + 40) (zm z 181 (181 + 40))) (mg μ0 ini 181 (181 + 40)) H := fP_congr (by decide) hP (fun a h1 h2 => ⟨rfl, rfl, fun ci hci j hj h3 => ⟨(if_pos ⟨h1, h2⟩).symm, fun _ => rfl⟩⟩)
  exact a_ret C hr hP hS hsz dX11_init_352
