theorem iu_X0 : ∀ x ∈ u_ws RX0 TX0 17, x ∈ gw := fun x h => List.mem_filter.mpr ⟨(by decide +kernel : ∀ x ∈ u_ws RX0 TX0 17, x ∈ lw_tbl) x h, List.all_eq_true.mp (by decide +kernel : (u_ws RX0 TX0 17).all goodWord = true) x h⟩
theorem iu_X1 : ∀ x ∈ u_ws RX1 TX1 10, x ∈ gw := fun x h => List.mem_filter.mpr ⟨(by decide +kernel : ∀ x ∈ u_ws RX1 TX1 10, x ∈ lw_tbl) x h, List.all_eq_true.mp (by decide +kernel : (u_ws RX1 TX1 10).all goodWord = true) x h⟩
theorem iu_X2 : ∀ x ∈ u_ws RX2 TX2 16, x ∈ gw := fun x h => List.mem_filter.mpr ⟨(by decide +kernel : ∀ x ∈ u_ws RX2 TX2 16, x ∈ lw_tbl) x h, List.all_eq_true.mp (by decide +kernel : (u_ws RX2 TX2 16).all goodWord = true) x h⟩
theorem iu_X3 : ∀ x ∈ u_ws RX3 TX3 6, x ∈ gw := fun x h => List.mem_filter.mpr ⟨(by decide +kernel : ∀ x ∈ u_ws RX3 TX3 6, x ∈ lw_tbl) x h, List.all_eq_true.mp (by decide +kernel : (u_ws RX3 TX3 6).all goodWord = true) x h⟩
theorem iu_X4 : ∀ x ∈ u_ws RX4 TX4 8, x ∈ gw := fun x h => List.mem_filter.mpr ⟨(by decide +kernel : ∀ x ∈ u_ws RX4 TX4 8, x ∈ lw_tbl) x h, List.all_eq_true.mp (by decide +kernel : (u_ws RX4 TX4 8).all goodWord = true) x h⟩
theorem iu_X5 : ∀ x ∈ u_ws RX5 TX5 8, x ∈ gw := fun x h => List.mem_filter.mpr ⟨(by decide +kernel : ∀ x ∈ u_ws RX5 TX5 8, x ∈ lw_tbl) x h, List.all_eq_true.mp (by decide +kernel : (u_ws RX5 TX5 8).all goodWord = true) x h⟩
theorem iu_X6 : ∀ x ∈ u_ws RX6 TX6 5, x ∈ gw := fun x h => List.mem_filter.mpr ⟨(by decide +kernel : ∀ x ∈ u_ws RX6 TX6 5, x ∈ lw_tbl) x h, List.all_eq_true.mp (by decide +kernel : (u_ws RX6 TX6 5).all goodWord = true) x h⟩
theorem iu_X7 : ∀ x ∈ u_ws RX7 TX7 7, x ∈ gw := fun x h => List.mem_filter.mpr ⟨(by decide +kernel : ∀ x ∈ u_ws RX7 TX7 7, x ∈ lw_tbl) x h, List.all_eq_true.mp (by decide +kernel : (u_ws RX7 TX7 7).all goodWord = true) x h⟩
theorem iu_X8 : ∀ x ∈ u_ws RX8 TX8 4, x ∈ gw := fun x h => List.mem_filter.mpr ⟨(by decide +kernel : ∀ x ∈ u_ws RX8 TX8 4, x ∈ lw_tbl) x h, List.all_eq_true.mp (by decide +kernel : (u_ws RX8 TX8 4).all goodWord = true) x h⟩
theorem iu_X9 : ∀ x ∈ u_ws RX9 TX9 11, x ∈ gw := fun x h => List.mem_filter.mpr ⟨(by decide +kernel : ∀ x ∈ u_ws RX9 TX9 11, x ∈ lw_tbl) x h, List.all_eq_true.mp (by decide +kernel : (u_ws RX9 TX9 11).all goodWord = true) x h⟩
theorem iu_X10 : ∀ x ∈ u_ws RX10 TX10 13, x ∈ gw := fun x h => List.mem_filter.mpr ⟨(by decide +kernel : ∀ x ∈ u_ws RX10 TX10 13, x ∈ lw_tbl) x h, List.all_eq_true.mp (by decide +kernel : (u_ws RX10 TX10 13).all goodWord = true) x h⟩
theorem iu_X11 : ∀ x ∈ u_ws RX11 TX11 65, x ∈ gw := fun x h => List.mem_filter.mpr ⟨(by decide +kernel : ∀ x ∈ u_ws RX11 TX11 65, x ∈ lw_tbl) x h, List.all_eq_true.mp (by decide +kernel : (u_ws RX11 TX11 65).all goodWord = true) x h⟩
set_option maxRecDepth 100000 in
theorem cd_J7_fill_d0a16 : Cond.code yJ7_fill_d0a16 cJ7_fill_d0a16 5 none ∈ gw := gw_mem 451 (by rfl) rfl
set_option maxRecDepth 100000 in
theorem cd_X2_told : Cond.code yX2_told cX2_told 2 (some .int) ∈ gw := gw_mem 798 (by rfl) rfl
set_option maxRecDepth 100000 in
theorem cd_X2_glassOf : Cond.code yX2_glassOf cX2_glassOf 3 (some .int) ∈ gw := gw_mem 911 (by rfl) rfl
set_option maxRecDepth 100000 in
theorem cd_X3_looksAt : Cond.code yX3_looksAt cX3_looksAt 2 (some .boolean) ∈ gw := gw_mem 933 (by rfl) rfl
set_option maxRecDepth 100000 in
theorem cd_X0_look : Cond.code yX0_look cX0_look 2 none ∈ gw := gw_mem 923 (by rfl) rfl
set_option maxRecDepth 100000 in
theorem cd_X2_has : Cond.code yX2_has cX2_has 3 (some .boolean) ∈ gw := gw_mem 880 (by rfl) rfl
set_option maxRecDepth 100000 in
theorem cd_X0_tasteOf : Cond.code yX0_tasteOf cX0_tasteOf 2 (some .int) ∈ gw := gw_mem 943 (by rfl) rfl
set_option maxRecDepth 100000 in
theorem cd_X0_warmth : Cond.code yX0_warmth cX0_warmth 2 (some .int) ∈ gw := gw_mem 947 (by rfl) rfl
set_option maxRecDepth 100000 in
theorem cd_X3_join : Cond.code yX3_join cX3_join 5 (some .long) ∈ gw := gw_mem 965 (by rfl) rfl
set_option maxRecDepth 100000 in
theorem cd_X3_times : Cond.code yX3_times cX3_times 6 (some .long) ∈ gw := gw_mem 961 (by rfl) rfl
set_option maxRecDepth 100000 in
theorem cd_X0_tellNames : Cond.code yX0_tellNames cX0_tellNames 5 none ∈ gw := gw_mem 952 (by rfl) rfl
set_option maxRecDepth 100000 in
theorem cd_X3_work : Cond.code yX3_work cX3_work 8 (some .long) ∈ gw := gw_mem 957 (by rfl) rfl
set_option maxRecDepth 100000 in
theorem cd_X0_isComing : Cond.code yX0_isComing cX0_isComing 4 (some .boolean) ∈ gw := gw_mem 1070 (by rfl) rfl
set_option maxRecDepth 100000 in
theorem cd_X0_within : Cond.code yX0_within cX0_within 3 (some .int) ∈ gw := gw_mem 977 (by rfl) rfl
set_option maxRecDepth 100000 in
theorem cd_X0_plainLiking : Cond.code yX0_plainLiking cX0_plainLiking 4 (some .int) ∈ gw := gw_mem 971 (by rfl) rfl
set_option maxRecDepth 100000 in
theorem cd_J7_fill_53178 : Cond.code yJ7_fill_53178 cJ7_fill_53178 4 none ∈ gw := gw_mem 396 (by rfl) rfl
set_option maxRecDepth 100000 in
theorem cd_X7_isRoped : Cond.code yX7_isRoped cX7_isRoped 2 (some .boolean) ∈ gw := gw_mem 884 (by rfl) rfl
set_option maxRecDepth 100000 in
theorem cd_X0_likes : Cond.code yX0_likes cX0_likes 9 (some .int) ∈ gw := gw_mem 939 (by rfl) rfl
set_option maxRecDepth 100000 in
theorem cd_X2_leads : Cond.code yX2_leads cX2_leads 3 (some .boolean) ∈ gw := gw_mem 825 (by rfl) rfl
set_option maxRecDepth 100000 in
theorem cd_X0_seat : Cond.code yX0_seat cX0_seat 6 (some .int) ∈ gw := gw_mem 1078 (by rfl) rfl
set_option maxRecDepth 100000 in
theorem cd_X0_leastLiked : Cond.code yX0_leastLiked cX0_leastLiked 8 (some .int) ∈ gw := gw_mem 1085 (by rfl) rfl
set_option maxRecDepth 100000 in
theorem cd_X0_bears : Cond.code yX0_bears cX0_bears 6 (some .int) ∈ gw := gw_mem 1089 (by rfl) rfl
set_option maxRecDepth 100000 in
theorem cd_X2_firstBehind : Cond.code yX2_firstBehind cX2_firstBehind 3 (some .int) ∈ gw := gw_mem 1093 (by rfl) rfl
set_option maxRecDepth 100000 in
theorem cd_X0_comers : Cond.code yX0_comers cX0_comers 3 (some .int) ∈ gw := gw_mem 1065 (by rfl) rfl
set_option maxRecDepth 100000 in
theorem cd_X0_visit : Cond.code yX0_visit cX0_visit 5 none ∈ gw := gw_mem 1074 (by rfl) rfl
set_option maxRecDepth 100000 in
theorem cd_X2_lawOf : Cond.code yX2_lawOf cX2_lawOf 2 (some (.object "DeadMonday$Law")) ∈ gw := gw_mem 759 (by rfl) rfl
set_option maxRecDepth 100000 in
theorem cd_X1_put : Cond.code yX1_put cX1_put 5 none ∈ gw := gw_mem 1169 (by rfl) rfl
set_option maxRecDepth 100000 in
theorem cd_X1_hangFrom : Cond.code yX1_hangFrom cX1_hangFrom 4 none ∈ gw := gw_mem 1160 (by rfl) rfl
set_option maxRecDepth 100000 in
theorem cd_X1_compare : Cond.code yX1_compare cX1_compare 3 none ∈ gw := gw_mem 1164 (by rfl) rfl
set_option maxRecDepth 100000 in
theorem cd_X1_weigh : Cond.code yX1_weigh cX1_weigh 7 none ∈ gw := gw_mem 1152 (by rfl) rfl
set_option maxRecDepth 100000 in
theorem cd_X3_clear : Cond.code yX3_clear cX3_clear 1 none ∈ gw := gw_mem 694 (by rfl) rfl
set_option maxRecDepth 100000 in
theorem cd_X4_add : Cond.code yX4_add cX4_add 5 (some .int) ∈ gw := gw_mem 1242 (by rfl) rfl
set_option maxRecDepth 100000 in
theorem cd_X4_knownBy : Cond.code yX4_knownBy cX4_knownBy 1 (some .int) ∈ gw := gw_mem 1005 (by rfl) rfl
set_option maxRecDepth 100000 in
theorem cd_X0_pass : Cond.code yX0_pass cX0_pass 5 none ∈ gw := gw_mem 1061 (by rfl) rfl
set_option maxRecDepth 100000 in
theorem cd_X4_areSo : Cond.code yX4_areSo cX4_areSo 5 (some .boolean) ∈ gw := gw_mem 1274 (by rfl) rfl
set_option maxRecDepth 100000 in
theorem cd_X9_signAt : Cond.code yX9_signAt cX9_signAt 2 (some .int) ∈ gw := gw_mem 715 (by rfl) rfl
set_option maxRecDepth 100000 in
theorem cd_X9_isLetter : Cond.code yX9_isLetter cX9_isLetter 1 (some .boolean) ∈ gw := gw_mem 718 (by rfl) rfl
set_option maxRecDepth 100000 in
theorem cd_X9_isDigit : Cond.code yX9_isDigit cX9_isDigit 1 (some .boolean) ∈ gw := gw_mem 725 (by rfl) rfl
set_option maxRecDepth 100000 in
theorem cd_X9_joins : Cond.code yX9_joins cX9_joins 2 (some .boolean) ∈ gw := gw_mem 738 (by rfl) rfl
set_option maxRecDepth 100000 in
theorem cd_X9_cutSign : Cond.code yX9_cutSign cX9_cutSign 2 none ∈ gw := gw_mem 734 (by rfl) rfl
set_option maxRecDepth 100000 in
theorem cd_X9_cutNumber : Cond.code yX9_cutNumber cX9_cutNumber 1 none ∈ gw := gw_mem 729 (by rfl) rfl
set_option maxRecDepth 100000 in
theorem cd_X9_cutWord : Cond.code yX9_cutWord cX9_cutWord 3 none ∈ gw := gw_mem 722 (by rfl) rfl
set_option maxRecDepth 100000 in
theorem cd_X9_cutOne : Cond.code yX9_cutOne cX9_cutOne 2 none ∈ gw := gw_mem 711 (by rfl) rfl
set_option maxRecDepth 100000 in
theorem cd_X9_next : Cond.code yX9_next cX9_next 1 none ∈ gw := gw_mem 742 (by rfl) rfl
set_option maxRecDepth 100000 in
theorem cd_X5_latest : Cond.code yX5_latest cX5_latest 1 (some .int) ∈ gw := gw_mem 775 (by rfl) rfl
set_option maxRecDepth 100000 in
theorem cd_X5_rank : Cond.code yX5_rank cX5_rank 1 (some .int) ∈ gw := gw_mem 778 (by rfl) rfl
set_option maxRecDepth 100000 in
theorem cd_X3_add : Cond.code yX3_add cX3_add 3 none ∈ gw := gw_mem 782 (by rfl) rfl
set_option maxRecDepth 100000 in
theorem cd_X5_fail : Cond.code yX5_fail cX5_fail 2 (some .boolean) ∈ gw := gw_mem 755 (by rfl) rfl
set_option maxRecDepth 100000 in
theorem cd_X5_settle : Cond.code yX5_settle cX5_settle 4 none ∈ gw := gw_mem 771 (by rfl) rfl
set_option maxRecDepth 100000 in
theorem cd_X5_countKnot : Cond.code yX5_countKnot cX5_countKnot 1 (some .boolean) ∈ gw := gw_mem 786 (by rfl) rfl
set_option maxRecDepth 100000 in
theorem cd_X5_await : Cond.code yX5_await cX5_await 2 (some .boolean) ∈ gw := gw_mem 790 (by rfl) rfl
set_option maxRecDepth 100000 in
theorem cd_X5_readValue : Cond.code yX5_readValue cX5_readValue 3 (some .boolean) ∈ gw := gw_mem 794 (by rfl) rfl
set_option maxRecDepth 100000 in
theorem cd_X5_readBehindValue : Cond.code yX5_readBehindValue cX5_readBehindValue 4 (some .boolean) ∈ gw := gw_mem 767 (by rfl) rfl
set_option maxRecDepth 100000 in
theorem cd_X5_readExpression : Cond.code yX5_readExpression cX5_readExpression 5 (some .boolean) ∈ gw := gw_mem 763 (by rfl) rfl
set_option maxRecDepth 100000 in
theorem cd_X2_find : Cond.code yX2_find cX2_find 4 (some .int) ∈ gw := gw_mem 812 (by rfl) rfl
set_option maxRecDepth 100000 in
theorem cd_X5_readRoom : Cond.code yX5_readRoom cX5_readRoom 1 (some .boolean) ∈ gw := gw_mem 821 (by rfl) rfl
set_option maxRecDepth 100000 in
theorem cd_X5_readNumber : Cond.code yX5_readNumber cX5_readNumber 2 (some .boolean) ∈ gw := gw_mem 837 (by rfl) rfl
set_option maxRecDepth 100000 in
theorem cd_X5_readName : Cond.code yX5_readName cX5_readName 3 (some .boolean) ∈ gw := gw_mem 808 (by rfl) rfl
set_option maxRecDepth 100000 in
theorem cd_X5_readInto : Cond.code yX5_readInto cX5_readInto 4 (some .boolean) ∈ gw := gw_mem 833 (by rfl) rfl
set_option maxRecDepth 100000 in
theorem cd_X5_readDoor : Cond.code yX5_readDoor cX5_readDoor 3 (some .boolean) ∈ gw := gw_mem 817 (by rfl) rfl
set_option maxRecDepth 100000 in
theorem cd_X5_readThing : Cond.code yX5_readThing cX5_readThing 2 (some .boolean) ∈ gw := gw_mem 829 (by rfl) rfl
set_option maxRecDepth 100000 in
theorem cd_X5_readDead : Cond.code yX5_readDead cX5_readDead 2 (some .boolean) ∈ gw := gw_mem 841 (by rfl) rfl
set_option maxRecDepth 100000 in
theorem cd_X5_readRest : Cond.code yX5_readRest cX5_readRest 3 (some .boolean) ∈ gw := gw_mem 804 (by rfl) rfl
set_option maxRecDepth 100000 in
theorem cd_X5_readLaw : Cond.code yX5_readLaw cX5_readLaw 2 (some .boolean) ∈ gw := gw_mem 750 (by rfl) rfl
set_option maxRecDepth 100000 in
theorem cd_X2_clear : Cond.code yX2_clear cX2_clear 1 none ∈ gw := gw_mem 689 (by rfl) rfl
set_option maxRecDepth 100000 in
theorem cd_X9_cut : Cond.code yX9_cut cX9_cut 4 none ∈ gw := gw_mem 698 (by rfl) rfl
set_option maxRecDepth 100000 in
theorem cd_X5_readLine : Cond.code yX5_readLine cX5_readLine 2 (some .boolean) ∈ gw := gw_mem 746 (by rfl) rfl
set_option maxRecDepth 100000 in
theorem cd_X6_share : Cond.code yX6_share cX6_share 4 (some .int) ∈ gw := gw_mem 1202 (by rfl) rfl
set_option maxRecDepth 100000 in
theorem cd_X6_weigh : Cond.code yX6_weigh cX6_weigh 7 none ∈ gw := gw_mem 1191 (by rfl) rfl
set_option maxRecDepth 100000 in
theorem cd_X6_isBest : Cond.code yX6_isBest cX6_isBest 6 (some .boolean) ∈ gw := gw_mem 1198 (by rfl) rfl
set_option maxRecDepth 100000 in
theorem cd_X8_dropFirst : Cond.code yX8_dropFirst cX8_dropFirst 1 none ∈ gw := gw_mem 1018 (by rfl) rfl
set_option maxRecDepth 100000 in
theorem cd_X7_setRoped : Cond.code yX7_setRoped cX7_setRoped 3 none ∈ gw := gw_mem 1027 (by rfl) rfl
set_option maxRecDepth 100000 in
theorem cd_X10_putFour : Cond.code yX10_putFour cX10_putFour 3 none ∈ gw := gw_mem 677 (by rfl) rfl
set_option maxRecDepth 100000 in
theorem cd_X5_read : Cond.code yX5_read cX5_read 4 (some .boolean) ∈ gw := gw_mem 685 (by rfl) rfl
set_option maxRecDepth 100000 in
theorem cd_X5_trade : Cond.code yX5_trade cX5_trade 3 (some (.object "DeadMonday$House")) ∈ gw := gw_mem 846 (by rfl) rfl
set_option maxRecDepth 100000 in
theorem cd_X7_enter : Cond.code yX7_enter cX7_enter 3 none ∈ gw := gw_mem 850 (by rfl) rfl
set_option maxRecDepth 100000 in
theorem cd_X4_clear : Cond.code yX4_clear cX4_clear 1 none ∈ gw := gw_mem 855 (by rfl) rfl
set_option maxRecDepth 100000 in
theorem cd_X8_clear : Cond.code yX8_clear cX8_clear 1 none ∈ gw := gw_mem 859 (by rfl) rfl
set_option maxRecDepth 100000 in
theorem cd_X0_forget : Cond.code yX0_forget cX0_forget 1 none ∈ gw := gw_mem 863 (by rfl) rfl
set_option maxRecDepth 100000 in
theorem cd_X7_thingsIn : Cond.code yX7_thingsIn cX7_thingsIn 4 (some .int) ∈ gw := gw_mem 888 (by rfl) rfl
set_option maxRecDepth 100000 in
theorem cd_J6_bitCount_0f7a4 : Cond.code yJ6_bitCount_0f7a4 cJ6_bitCount_0f7a4 1 (some .int) ∈ gw := gw_mem 891 (by rfl) rfl
set_option maxRecDepth 100000 in
theorem cd_X0_begin : Cond.code yX0_begin cX0_begin 3 none ∈ gw := gw_mem 919 (by rfl) rfl
set_option maxRecDepth 100000 in
theorem cd_X0_value : Cond.code yX0_value cX0_value 5 (some .long) ∈ gw := gw_mem 992 (by rfl) rfl
set_option maxRecDepth 100000 in
theorem cd_X10_sum : Cond.code yX10_sum cX10_sum 6 (some .int) ∈ gw := gw_mem 1001 (by rfl) rfl
set_option maxRecDepth 100000 in
theorem cd_X8_add : Cond.code yX8_add cX8_add 4 none ∈ gw := gw_mem 1014 (by rfl) rfl
set_option maxRecDepth 100000 in
theorem cd_X8_takeBack : Cond.code yX8_takeBack cX8_takeBack 4 none ∈ gw := gw_mem 1039 (by rfl) rfl
set_option maxRecDepth 100000 in
theorem cd_X7_copy : Cond.code yX7_copy cX7_copy 2 none ∈ gw := gw_mem 1048 (by rfl) rfl
set_option maxRecDepth 100000 in
theorem cd_X10_tryFromNow : Cond.code yX10_tryFromNow cX10_tryFromNow 1 none ∈ gw := gw_mem 1102 (by rfl) rfl
set_option maxRecDepth 100000 in
theorem cd_X0_drawFrom : Cond.code yX0_drawFrom cX0_drawFrom 3 none ∈ gw := gw_mem 1134 (by rfl) rfl
set_option maxRecDepth 100000 in
theorem cd_X1_work : Cond.code yX1_work cX1_work 5 none ∈ gw := gw_mem 1146 (by rfl) rfl
set_option maxRecDepth 100000 in
theorem cd_X7_hangAll : Cond.code yX7_hangAll cX7_hangAll 4 none ∈ gw := gw_mem 1177 (by rfl) rfl
set_option maxRecDepth 100000 in
theorem cd_X6_work : Cond.code yX6_work cX6_work 6 none ∈ gw := gw_mem 1185 (by rfl) rfl
set_option maxRecDepth 100000 in
theorem cd_X2_nextTo : Cond.code yX2_nextTo cX2_nextTo 4 (some .int) ∈ gw := gw_mem 1214 (by rfl) rfl
set_option maxRecDepth 100000 in
theorem cd_X10_ways : Cond.code yX10_ways cX10_ways 5 (some .long) ∈ gw := gw_mem 1223 (by rfl) rfl
set_option maxRecDepth 100000 in
theorem cd_X10_greatestShared : Cond.code yX10_greatestShared cX10_greatestShared 11 (some .long) ∈ gw := gw_mem 1226 (by rfl) rfl
set_option maxRecDepth 100000 in
theorem cd_X4_addStrike : Cond.code yX4_addStrike cX4_addStrike 3 (some .int) ∈ gw := gw_mem 1250 (by rfl) rfl
set_option maxRecDepth 100000 in
theorem cd_X4_strike : Cond.code yX4_strike cX4_strike 3 none ∈ gw := gw_mem 1263 (by rfl) rfl
set_option maxRecDepth 100000 in
theorem cd_X4_holdOn : Cond.code yX4_holdOn cX4_holdOn 5 (some .boolean) ∈ gw := gw_mem 1268 (by rfl) rfl
set_option maxRecDepth 100000 in
theorem cd_X11_here : Cond.code yX11_here cX11_here 1 (some .int) ∈ gw := gw_mem 1599 (by rfl) rfl
set_option maxRecDepth 100000 in
theorem cd_X11_isSmall : Cond.code yX11_isSmall cX11_isSmall 1 (some .boolean) ∈ gw := gw_mem 1602 (by rfl) rfl
set_option maxRecDepth 100000 in
theorem cd_X11_isDigit : Cond.code yX11_isDigit cX11_isDigit 1 (some .boolean) ∈ gw := gw_mem 1616 (by rfl) rfl
set_option maxRecDepth 100000 in
theorem cd_X11_sign : Cond.code yX11_sign cX11_sign 2 none ∈ gw := gw_mem 1621 (by rfl) rfl
set_option maxRecDepth 100000 in
theorem cd_X11_word : Cond.code yX11_word cX11_word 4 (some .int) ∈ gw := gw_mem 1606 (by rfl) rfl
set_option maxRecDepth 100000 in
theorem cd_X11_name : Cond.code yX11_name cX11_name 2 none ∈ gw := gw_mem 1613 (by rfl) rfl
set_option maxRecDepth 100000 in
theorem cd_X11_token : Cond.code yX11_token cX11_token 2 none ∈ gw := gw_mem 1595 (by rfl) rfl
set_option maxRecDepth 100000 in
theorem cd_X11_wrong : Cond.code yX11_wrong cX11_wrong 2 none ∈ gw := gw_mem 1629 (by rfl) rfl
set_option maxRecDepth 100000 in
theorem cd_X11_found : Cond.code yX11_found cX11_found 5 (some .int) ∈ gw := gw_mem 1644 (by rfl) rfl
set_option maxRecDepth 100000 in
theorem cd_X11_fresher : Cond.code yX11_fresher cX11_fresher 2 (some .int) ∈ gw := gw_mem 1637 (by rfl) rfl
set_option maxRecDepth 100000 in
theorem cd_X11_roomAtHand : Cond.code yX11_roomAtHand cX11_roomAtHand 1 (some .int) ∈ gw := gw_mem 1656 (by rfl) rfl
set_option maxRecDepth 100000 in
theorem cd_X11_goOn : Cond.code yX11_goOn cX11_goOn 1 none ∈ gw := gw_mem 1660 (by rfl) rfl
set_option maxRecDepth 100000 in
theorem cd_X11_roomAhead : Cond.code yX11_roomAhead cX11_roomAhead 2 (some .int) ∈ gw := gw_mem 1652 (by rfl) rfl
set_option maxRecDepth 100000 in
theorem cd_X11_reads : Cond.code yX11_reads cX11_reads 3 none ∈ gw := gw_mem 1591 (by rfl) rfl
set_option maxRecDepth 100000 in
theorem cd_X11_isSign : Cond.code yX11_isSign cX11_isSign 2 (some .boolean) ∈ gw := gw_mem 1708 (by rfl) rfl
set_option maxRecDepth 100000 in
theorem cd_X11_knot : Cond.code yX11_knot cX11_knot 1 none ∈ gw := gw_mem 1688 (by rfl) rfl
set_option maxRecDepth 100000 in
theorem cd_X11_puts : Cond.code yX11_puts cX11_puts 3 none ∈ gw := gw_mem 1692 (by rfl) rfl
set_option maxRecDepth 100000 in
theorem cd_X11_expression : Cond.code yX11_expression cX11_expression 1 none ∈ gw := gw_mem 1672 (by rfl) rfl
set_option maxRecDepth 100000 in
theorem cd_X11_primary : Cond.code yX11_primary cX11_primary 2 none ∈ gw := gw_mem 1704 (by rfl) rfl
set_option maxRecDepth 100000 in
theorem cd_X11_product : Cond.code yX11_product cX11_product 2 none ∈ gw := gw_mem 1700 (by rfl) rfl
set_option maxRecDepth 100000 in
theorem cd_X11_isWord : Cond.code yX11_isWord cX11_isWord 2 (some .boolean) ∈ gw := gw_mem 1684 (by rfl) rfl
set_option maxRecDepth 100000 in
theorem cd_X11_sum : Cond.code yX11_sum cX11_sum 2 none ∈ gw := gw_mem 1696 (by rfl) rfl
set_option maxRecDepth 100000 in
theorem cd_X11_negation : Cond.code yX11_negation cX11_negation 2 none ∈ gw := gw_mem 1680 (by rfl) rfl
set_option maxRecDepth 100000 in
theorem cd_X11_conjunction : Cond.code yX11_conjunction cX11_conjunction 1 none ∈ gw := gw_mem 1676 (by rfl) rfl
set_option maxRecDepth 100000 in
theorem cd_X11_isFull : Cond.code yX11_isFull cX11_isFull 2 (some .boolean) ∈ gw := gw_mem 1633 (by rfl) rfl
set_option maxRecDepth 100000 in
theorem cd_X11_fresh : Cond.code yX11_fresh cX11_fresh 5 (some .int) ∈ gw := gw_mem 1641 (by rfl) rfl
set_option maxRecDepth 100000 in
theorem cd_X11_doorLine : Cond.code yX11_doorLine cX11_doorLine 5 none ∈ gw := gw_mem 1648 (by rfl) rfl
set_option maxRecDepth 100000 in
theorem cd_X11_numeral : Cond.code yX11_numeral cX11_numeral 4 (some .int) ∈ gw := gw_mem 1664 (by rfl) rfl
set_option maxRecDepth 100000 in
theorem cd_X11_lawLine : Cond.code yX11_lawLine cX11_lawLine 2 none ∈ gw := gw_mem 1668 (by rfl) rfl
set_option maxRecDepth 100000 in
theorem cd_X11_starts : Cond.code yX11_starts cX11_starts 3 none ∈ gw := gw_mem 1379 (by rfl) rfl
set_option maxRecDepth 100000 in
theorem cd_X11_line : Cond.code yX11_line cX11_line 4 none ∈ gw := gw_mem 1625 (by rfl) rfl
set_option maxRecDepth 100000 in
theorem cd_X11_half : Cond.code yX11_half cX11_half 3 none ∈ gw := gw_mem 1711 (by rfl) rfl
set_option maxRecDepth 100000 in
theorem cd_X11_begins : Cond.code yX11_begins cX11_begins 1 none ∈ gw := gw_mem 1375 (by rfl) rfl
set_option maxRecDepth 100000 in
theorem cd_X11_is : Cond.code yX11_is cX11_is 1 (some .long) ∈ gw := gw_mem 1806 (by rfl) rfl
set_option maxRecDepth 100000 in
theorem cd_X11_works : Cond.code yX11_works cX11_works 8 (some .boolean) ∈ gw := gw_mem 1803 (by rfl) rfl
set_option maxRecDepth 100000 in
theorem cd_X11_glassAt : Cond.code yX11_glassAt cX11_glassAt 2 (some .int) ∈ gw := gw_mem 1766 (by rfl) rfl
set_option maxRecDepth 100000 in
theorem cd_X11_tasteIn : Cond.code yX11_tasteIn cX11_tasteIn 2 (some .int) ∈ gw := gw_mem 1782 (by rfl) rfl
set_option maxRecDepth 100000 in
theorem cd_X11_gaugeIn : Cond.code yX11_gaugeIn cX11_gaugeIn 2 (some .int) ∈ gw := gw_mem 1786 (by rfl) rfl
set_option maxRecDepth 100000 in
theorem cd_X11_hasLaw : Cond.code yX11_hasLaw cX11_hasLaw 2 (some .boolean) ∈ gw := gw_mem 1795 (by rfl) rfl
set_option maxRecDepth 100000 in
theorem cd_X11_goes : Cond.code yX11_goes cX11_goes 3 (some .boolean) ∈ gw := gw_mem 1799 (by rfl) rfl
set_option maxRecDepth 100000 in
theorem cd_X11_calls : Cond.code yX11_calls cX11_calls 4 none ∈ gw := gw_mem 1778 (by rfl) rfl
set_option maxRecDepth 100000 in
theorem cd_X11_within : Cond.code yX11_within cX11_within 4 (some .int) ∈ gw := gw_mem 1791 (by rfl) rfl
set_option maxRecDepth 100000 in
theorem cd_X11_isHung : Cond.code yX11_isHung cX11_isHung 2 (some .boolean) ∈ gw := gw_mem 1870 (by rfl) rfl
set_option maxRecDepth 100000 in
theorem cd_X11_likingOf : Cond.code yX11_likingOf cX11_likingOf 5 (some .int) ∈ gw := gw_mem 1774 (by rfl) rfl
set_option maxRecDepth 100000 in
theorem cd_X11_isOpen : Cond.code yX11_isOpen cX11_isOpen 3 (some .boolean) ∈ gw := gw_mem 1862 (by rfl) rfl
set_option maxRecDepth 100000 in
theorem cd_X11_likingFor : Cond.code yX11_likingFor cX11_likingFor 6 (some .int) ∈ gw := gw_mem 1866 (by rfl) rfl
set_option maxRecDepth 100000 in
theorem cd_X11_isDoor : Cond.code yX11_isDoor cX11_isDoor 4 (some .boolean) ∈ gw := gw_mem 1758 (by rfl) rfl
set_option maxRecDepth 100000 in
theorem cd_X11_seatOf : Cond.code yX11_seatOf cX11_seatOf 7 (some .int) ∈ gw := gw_mem 1858 (by rfl) rfl
set_option maxRecDepth 100000 in
theorem cd_X11_nextTo : Cond.code yX11_nextTo cX11_nextTo 3 (some .int) ∈ gw := gw_mem 1874 (by rfl) rfl
set_option maxRecDepth 100000 in
theorem cd_X11_doesCome : Cond.code yX11_doesCome cX11_doesCome 3 (some .boolean) ∈ gw := gw_mem 1850 (by rfl) rfl
set_option maxRecDepth 100000 in
theorem cd_X11_visits : Cond.code yX11_visits cX11_visits 8 none ∈ gw := gw_mem 1854 (by rfl) rfl
set_option maxRecDepth 100000 in
theorem cd_X11_passes : Cond.code yX11_passes cX11_passes 3 none ∈ gw := gw_mem 1846 (by rfl) rfl
set_option maxRecDepth 100000 in
theorem cd_X11_copies : Cond.code yX11_copies cX11_copies 4 none ∈ gw := gw_mem 1830 (by rfl) rfl
set_option maxRecDepth 100000 in
theorem cd_X11_goesOn : Cond.code yX11_goesOn cX11_goesOn 3 none ∈ gw := gw_mem 1886 (by rfl) rfl
set_option maxRecDepth 100000 in
theorem cd_X11_sumOf : Cond.code yX11_sumOf cX11_sumOf 5 (some .int) ∈ gw := gw_mem 1890 (by rfl) rfl
set_option maxRecDepth 100000 in
theorem cd_X11_isThing : Cond.code yX11_isThing cX11_isThing 2 (some .boolean) ∈ gw := gw_mem 1727 (by rfl) rfl
set_option maxRecDepth 100000 in
theorem cd_X11_isRoom : Cond.code yX11_isRoom cX11_isRoom 2 (some .boolean) ∈ gw := gw_mem 1735 (by rfl) rfl
set_option maxRecDepth 100000 in
theorem cd_X11_thingsIn : Cond.code yX11_thingsIn cX11_thingsIn 5 (some .int) ∈ gw := gw_mem 1739 (by rfl) rfl
set_option maxRecDepth 100000 in
theorem cd_X11_bitsOf : Cond.code yX11_bitsOf cX11_bitsOf 3 (some .int) ∈ gw := gw_mem 1742 (by rfl) rfl
set_option maxRecDepth 100000 in
theorem cd_X11_isDead : Cond.code yX11_isDead cX11_isDead 2 (some .boolean) ∈ gw := gw_mem 1750 (by rfl) rfl
set_option maxRecDepth 100000 in
theorem cd_X11_keepNow : Cond.code yX11_keepNow cX11_keepNow 2 none ∈ gw := gw_mem 1826 (by rfl) rfl
set_option maxRecDepth 100000 in
theorem cd_X11_runs : Cond.code yX11_runs cX11_runs 2 none ∈ gw := gw_mem 1882 (by rfl) rfl
set_option maxRecDepth 100000 in
theorem cd_X11_comersOf : Cond.code yX11_comersOf cX11_comersOf 4 (some .int) ∈ gw := gw_mem 1898 (by rfl) rfl
set_option maxRecDepth 100000 in
theorem cd_X11_stirs : Cond.code yX11_stirs cX11_stirs 2 (some .int) ∈ gw := gw_mem 1910 (by rfl) rfl
set_option maxRecDepth 100000 in
theorem cd_X11_likingWhereAllSit : Cond.code yX11_likingWhereAllSit cX11_likingWhereAllSit 4 (some .int) ∈ gw := gw_mem 1927 (by rfl) rfl
set_option maxRecDepth 100000 in
theorem cd_X11_hangs : Cond.code yX11_hangs cX11_hangs 5 none ∈ gw := gw_mem 1923 (by rfl) rfl
set_option maxRecDepth 100000 in
theorem cd_X11_hasOf : Cond.code yX11_hasOf cX11_hasOf 5 (some .int) ∈ gw := gw_mem 1947 (by rfl) rfl
set_option maxRecDepth 100000 in
theorem cd_X11_isRest : Cond.code yX11_isRest cX11_isRest 4 (some .boolean) ∈ gw := gw_mem 1943 (by rfl) rfl
set_option maxRecDepth 100000 in
theorem cd_X11_restOf : Cond.code yX11_restOf cX11_restOf 5 (some .int) ∈ gw := gw_mem 1939 (by rfl) rfl
set_option maxRecDepth 100000 in
theorem cd_X11_common : Cond.code yX11_common cX11_common 10 (some .long) ∈ gw := gw_mem 1964 (by rfl) rfl
set_option maxRecDepth 100000 in
theorem cd_X11_knownMany : Cond.code yX11_knownMany cX11_knownMany 1 (some .int) ∈ gw := gw_mem 1997 (by rfl) rfl
set_option maxRecDepth 100000 in
theorem cd_X11_isSo : Cond.code yX11_isSo cX11_isSo 3 (some .boolean) ∈ gw := gw_mem 2005 (by rfl) rfl
set_option maxRecDepth 100000 in
theorem cd_X11_fitsTaste : Cond.code yX11_fitsTaste cX11_fitsTaste 3 (some .boolean) ∈ gw := gw_mem 2001 (by rfl) rfl
theorem ct_J6_265 : Cond.constant RJ6 265 (1431655765) ∈ gw := gw_mem 892 (by decide +kernel) rfl
theorem ct_J6_266 : Cond.constant RJ6 266 (858993459) ∈ gw := gw_mem 893 (by decide +kernel) rfl
theorem ct_J6_267 : Cond.constant RJ6 267 (252645135) ∈ gw := gw_mem 894 (by decide +kernel) rfl
theorem fl_X0_63 : FL RX0 63 0 13 := ⟨(RX0, TX0, 17), rfl, by decide, rfl, gw_mem 472 (by decide +kernel) rfl, iu_X0⟩
theorem ct_X0_75 : Cond.constantLong RX0 75 (-1) ∈ gw := gw_mem 448 (by decide +kernel) rfl
theorem ms_X0_77 : MS RX0 77 yJ7_fill_d0a16 cJ7_fill_d0a16 5 none 2 := ⟨gw_mem 449 (by decide +kernel) rfl, cd_J7_fill_d0a16, gw_mem 121 (by decide +kernel) rfl, gw_mem 450 (by decide +kernel) rfl, by decide, by decide, by decide +kernel⟩
theorem fl_X2_9 : FL RX2 9 2 0 := ⟨(RX2, TX2, 16), rfl, by decide, rfl, gw_mem 180 (by decide +kernel) rfl, iu_X2⟩
theorem mv_X2_76 : MV RX2 76 2 yX2_told cX2_told 2 (some .int) 1 := ⟨gw_mem 813 (by decide +kernel) rfl, cd_X2_told, gw_mem 112 (by decide +kernel) rfl, gw_mem 796 (by decide +kernel) rfl, gw_mem 797 (by decide +kernel) rfl, ⟨_, rfl, rfl⟩, by decide, by decide, by decide +kernel⟩
theorem fl_X2_51 : FL RX2 51 2 12 := ⟨(RX2, TX2, 16), rfl, by decide, rfl, gw_mem 219 (by decide +kernel) rfl, iu_X2⟩
theorem fl_X3_19 : FL RX3 19 3 2 := ⟨(RX3, TX3, 6), rfl, by decide, rfl, gw_mem 161 (by decide +kernel) rfl, iu_X3⟩
theorem fl_X0_35 : FL RX0 35 0 7 := ⟨(RX0, TX0, 17), rfl, by decide, rfl, gw_mem 466 (by decide +kernel) rfl, iu_X0⟩
theorem fl_X0_41 : FL RX0 41 0 8 := ⟨(RX0, TX0, 17), rfl, by decide, rfl, gw_mem 467 (by decide +kernel) rfl, iu_X0⟩
theorem fl_X0_48 : FL RX0 48 0 9 := ⟨(RX0, TX0, 17), rfl, by decide, rfl, gw_mem 468 (by decide +kernel) rfl, iu_X0⟩
theorem fl_X0_96 : FL RX0 96 7 6 := ⟨(RX7, TX7, 7), rfl, by decide, rfl, gw_mem 421 (by decide +kernel) rfl, iu_X7⟩
theorem mv_X0_99 : MV RX0 99 2 yX2_glassOf cX2_glassOf 3 (some .int) 1 := ⟨gw_mem 929 (by decide +kernel) rfl, cd_X2_glassOf, gw_mem 112 (by decide +kernel) rfl, gw_mem 909 (by decide +kernel) rfl, gw_mem 910 (by decide +kernel) rfl, ⟨_, rfl, rfl⟩, by decide, by decide, by decide +kernel⟩
theorem fp_X0_52 : FP RX0 52 0 10 .int := ⟨(RX0, TX0, 17), rfl, by decide, rfl, gw_mem 469 (by decide +kernel) rfl, iu_X0, ⟨tyX0, tyX0_ok⟩, nmX0, rfl, by decide +kernel⟩
theorem fl_X0_31 : FL RX0 31 0 6 := ⟨(RX0, TX0, 17), rfl, by decide, rfl, gw_mem 464 (by decide +kernel) rfl, iu_X0⟩
theorem ct_X0_86 : Cond.constantLong RX0 86 (1103515245) ∈ gw := gw_mem 924 (by decide +kernel) rfl
theorem ct_X0_88 : Cond.constantLong RX0 88 (12345) ∈ gw := gw_mem 925 (by decide +kernel) rfl
theorem ct_X0_90 : Cond.constantLong RX0 90 (2147483647) ∈ gw := gw_mem 926 (by decide +kernel) rfl
theorem fp_X0_31 : FP RX0 31 0 6 .long := ⟨(RX0, TX0, 17), rfl, by decide, rfl, gw_mem 464 (by decide +kernel) rfl, iu_X0, ⟨tyX0, tyX0_ok⟩, nmX0, rfl, by decide +kernel⟩
theorem ct_X0_92 : Cond.constantLong RX0 92 (65536) ∈ gw := gw_mem 927 (by decide +kernel) rfl
theorem ct_X0_94 : Cond.constantLong RX0 94 (100) ∈ gw := gw_mem 928 (by decide +kernel) rfl
theorem fl_X0_103 : FL RX0 103 2 13 := ⟨(RX2, TX2, 16), rfl, by decide, rfl, gw_mem 222 (by decide +kernel) rfl, iu_X2⟩
theorem mv_X0_107 : MV RX0 107 3 yX3_looksAt cX3_looksAt 2 (some .boolean) 1 := ⟨gw_mem 930 (by decide +kernel) rfl, cd_X3_looksAt, gw_mem 113 (by decide +kernel) rfl, gw_mem 931 (by decide +kernel) rfl, gw_mem 932 (by decide +kernel) rfl, ⟨_, rfl, rfl⟩, by decide, by decide, by decide +kernel⟩
theorem fl_X0_52 : FL RX0 52 0 10 := ⟨(RX0, TX0, 17), rfl, by decide, rfl, gw_mem 469 (by decide +kernel) rfl, iu_X0⟩
theorem ct_X0_113 : Cond.constantLong RX0 113 (16) ∈ gw := gw_mem 934 (by decide +kernel) rfl
theorem ct_X0_115 : Cond.constantLong RX0 115 (2048) ∈ gw := gw_mem 935 (by decide +kernel) rfl
theorem fp_X0_69 : FP RX0 69 0 15 .long := ⟨(RX0, TX0, 17), rfl, by decide, rfl, gw_mem 474 (by decide +kernel) rfl, iu_X0, ⟨tyX0, tyX0_ok⟩, nmX0, rfl, by decide +kernel⟩
theorem fp_X0_72 : FP RX0 72 0 16 .boolean := ⟨(RX0, TX0, 17), rfl, by decide, rfl, gw_mem 475 (by decide +kernel) rfl, iu_X0, ⟨tyX0, tyX0_ok⟩, nmX0, rfl, by decide +kernel⟩
theorem fp_X0_41 : FP RX0 41 0 8 (.object "DeadMonday$House") := ⟨(RX0, TX0, 17), rfl, by decide, rfl, gw_mem 467 (by decide +kernel) rfl, iu_X0, ⟨tyX0, tyX0_ok⟩, nmX0, rfl, by decide +kernel⟩
theorem fp_X0_48 : FP RX0 48 0 9 (.object "DeadMonday$Stand") := ⟨(RX0, TX0, 17), rfl, by decide, rfl, gw_mem 468 (by decide +kernel) rfl, iu_X0, ⟨tyX0, tyX0_ok⟩, nmX0, rfl, by decide +kernel⟩
theorem fp_X0_9 : FP RX0 9 0 0 .int := ⟨(RX0, TX0, 17), rfl, by decide, rfl, gw_mem 452 (by decide +kernel) rfl, iu_X0, ⟨tyX0, tyX0_ok⟩, nmX0, rfl, by decide +kernel⟩
theorem fp_X0_15 : FP RX0 15 0 1 .int := ⟨(RX0, TX0, 17), rfl, by decide, rfl, gw_mem 454 (by decide +kernel) rfl, iu_X0, ⟨tyX0, tyX0_ok⟩, nmX0, rfl, by decide +kernel⟩
theorem fp_X0_18 : FP RX0 18 0 2 .int := ⟨(RX0, TX0, 17), rfl, by decide, rfl, gw_mem 456 (by decide +kernel) rfl, iu_X0, ⟨tyX0, tyX0_ok⟩, nmX0, rfl, by decide +kernel⟩
theorem fp_X0_21 : FP RX0 21 0 3 .boolean := ⟨(RX0, TX0, 17), rfl, by decide, rfl, gw_mem 458 (by decide +kernel) rfl, iu_X0, ⟨tyX0, tyX0_ok⟩, nmX0, rfl, by decide +kernel⟩
theorem fp_X0_25 : FP RX0 25 0 4 .int := ⟨(RX0, TX0, 17), rfl, by decide, rfl, gw_mem 460 (by decide +kernel) rfl, iu_X0, ⟨tyX0, tyX0_ok⟩, nmX0, rfl, by decide +kernel⟩
theorem fp_X0_35 : FP RX0 35 0 7 .boolean := ⟨(RX0, TX0, 17), rfl, by decide, rfl, gw_mem 466 (by decide +kernel) rfl, iu_X0, ⟨tyX0, tyX0_ok⟩, nmX0, rfl, by decide +kernel⟩
theorem mv_X0_83 : MV RX0 83 0 yX0_look cX0_look 2 none 0 := ⟨gw_mem 920 (by decide +kernel) rfl, cd_X0_look, gw_mem 122 (by decide +kernel) rfl, gw_mem 921 (by decide +kernel) rfl, gw_mem 922 (by decide +kernel) rfl, ⟨_, rfl, rfl⟩, by decide, by decide, by decide +kernel⟩
theorem fl_X0_25 : FL RX0 25 0 4 := ⟨(RX0, TX0, 17), rfl, by decide, rfl, gw_mem 460 (by decide +kernel) rfl, iu_X0⟩
theorem fl_X0_224 : FL RX0 224 2 8 := ⟨(RX2, TX2, 16), rfl, by decide, rfl, gw_mem 206 (by decide +kernel) rfl, iu_X2⟩
theorem fl_X0_28 : FL RX0 28 0 5 := ⟨(RX0, TX0, 17), rfl, by decide, rfl, gw_mem 462 (by decide +kernel) rfl, iu_X0⟩
theorem fl_X0_150 : FL RX0 150 7 3 := ⟨(RX7, TX7, 7), rfl, by decide, rfl, gw_mem 413 (by decide +kernel) rfl, iu_X7⟩
theorem mv_X0_231 : MV RX0 231 2 yX2_has cX2_has 3 (some .boolean) 2 := ⟨gw_mem 953 (by decide +kernel) rfl, cd_X2_has, gw_mem 112 (by decide +kernel) rfl, gw_mem 878 (by decide +kernel) rfl, gw_mem 879 (by decide +kernel) rfl, ⟨_, rfl, rfl⟩, by decide, by decide, by decide +kernel⟩
theorem fl_X0_55 : FL RX0 55 0 11 := ⟨(RX0, TX0, 17), rfl, by decide, rfl, gw_mem 470 (by decide +kernel) rfl, iu_X0⟩
theorem fl_X0_200 : FL RX0 200 2 7 := ⟨(RX2, TX2, 16), rfl, by decide, rfl, gw_mem 202 (by decide +kernel) rfl, iu_X2⟩
theorem fl_X0_208 : FL RX0 208 2 6 := ⟨(RX2, TX2, 16), rfl, by decide, rfl, gw_mem 198 (by decide +kernel) rfl, iu_X2⟩
theorem mv_X0_185 : MV RX0 185 0 yX0_tasteOf cX0_tasteOf 2 (some .int) 1 := ⟨gw_mem 940 (by decide +kernel) rfl, cd_X0_tasteOf, gw_mem 122 (by decide +kernel) rfl, gw_mem 942 (by decide +kernel) rfl, gw_mem 25 (by decide +kernel) rfl, ⟨_, rfl, rfl⟩, by decide, by decide, by decide +kernel⟩
theorem fl_X0_211 : FL RX0 211 2 9 := ⟨(RX2, TX2, 16), rfl, by decide, rfl, gw_mem 210 (by decide +kernel) rfl, iu_X2⟩
theorem mv_X0_188 : MV RX0 188 0 yX0_warmth cX0_warmth 2 (some .int) 1 := ⟨gw_mem 944 (by decide +kernel) rfl, cd_X0_warmth, gw_mem 122 (by decide +kernel) rfl, gw_mem 946 (by decide +kernel) rfl, gw_mem 26 (by decide +kernel) rfl, ⟨_, rfl, rfl⟩, by decide, by decide, by decide +kernel⟩
theorem ct_X3_43 : Cond.constantLong RX3 43 (1000000000000) ∈ gw := gw_mem 962 (by decide +kernel) rfl
theorem ct_X3_33 : Cond.constantLong RX3 33 (-9223372036854775808) ∈ gw := gw_mem 958 (by decide +kernel) rfl
theorem fl_X3_15 : FL RX3 15 3 1 := ⟨(RX3, TX3, 6), rfl, by decide, rfl, gw_mem 160 (by decide +kernel) rfl, iu_X3⟩
theorem fl_X3_22 : FL RX3 22 3 3 := ⟨(RX3, TX3, 6), rfl, by decide, rfl, gw_mem 162 (by decide +kernel) rfl, iu_X3⟩
theorem fl_X3_29 : FL RX3 29 3 5 := ⟨(RX3, TX3, 6), rfl, by decide, rfl, gw_mem 164 (by decide +kernel) rfl, iu_X3⟩
theorem ms_X3_39 : MS RX3 39 yX3_join cX3_join 5 (some .long) 3 := ⟨gw_mem 963 (by decide +kernel) rfl, cd_X3_join, gw_mem 113 (by decide +kernel) rfl, gw_mem 964 (by decide +kernel) rfl, by decide, by decide, by decide +kernel⟩
theorem ms_X3_35 : MS RX3 35 yX3_times cX3_times 6 (some .long) 2 := ⟨gw_mem 959 (by decide +kernel) rfl, cd_X3_times, gw_mem 113 (by decide +kernel) rfl, gw_mem 960 (by decide +kernel) rfl, by decide, by decide, by decide +kernel⟩
theorem fl_X3_26 : FL RX3 26 3 4 := ⟨(RX3, TX3, 6), rfl, by decide, rfl, gw_mem 163 (by decide +kernel) rfl, iu_X3⟩
theorem ct_X3_45 : Cond.constantLong RX3 45 (-1000000000000) ∈ gw := gw_mem 966 (by decide +kernel) rfl
theorem mv_X0_131 : MV RX0 131 0 yX0_tellNames cX0_tellNames 5 none 3 := ⟨gw_mem 949 (by decide +kernel) rfl, cd_X0_tellNames, gw_mem 122 (by decide +kernel) rfl, gw_mem 951 (by decide +kernel) rfl, gw_mem 27 (by decide +kernel) rfl, ⟨_, rfl, rfl⟩, by decide, by decide, by decide +kernel⟩
theorem fl_X0_135 : FL RX0 135 2 15 := ⟨(RX2, TX2, 16), rfl, by decide, rfl, gw_mem 226 (by decide +kernel) rfl, iu_X2⟩
theorem mv_X0_138 : MV RX0 138 3 yX3_work cX3_work 8 (some .long) 1 := ⟨gw_mem 954 (by decide +kernel) rfl, cd_X3_work, gw_mem 113 (by decide +kernel) rfl, gw_mem 955 (by decide +kernel) rfl, gw_mem 956 (by decide +kernel) rfl, ⟨_, rfl, rfl⟩, by decide, by decide, by decide +kernel⟩
theorem ct_X0_142 : Cond.constantLong RX0 142 (-9223372036854775808) ∈ gw := gw_mem 967 (by decide +kernel) rfl
theorem fl_X0_144 : FL RX0 144 2 11 := ⟨(RX2, TX2, 16), rfl, by decide, rfl, gw_mem 216 (by decide +kernel) rfl, iu_X2⟩
theorem mv_X0_121 : MV RX0 121 2 yX2_told cX2_told 2 (some .int) 1 := ⟨gw_mem 1066 (by decide +kernel) rfl, cd_X2_told, gw_mem 112 (by decide +kernel) rfl, gw_mem 796 (by decide +kernel) rfl, gw_mem 797 (by decide +kernel) rfl, ⟨_, rfl, rfl⟩, by decide, by decide, by decide +kernel⟩
theorem fl_X0_18 : FL RX0 18 0 2 := ⟨(RX0, TX0, 17), rfl, by decide, rfl, gw_mem 456 (by decide +kernel) rfl, iu_X0⟩
theorem fl_X0_21 : FL RX0 21 0 3 := ⟨(RX0, TX0, 17), rfl, by decide, rfl, gw_mem 458 (by decide +kernel) rfl, iu_X0⟩
theorem mv_X0_128 : MV RX0 128 0 yX0_isComing cX0_isComing 4 (some .boolean) 1 := ⟨gw_mem 1067 (by decide +kernel) rfl, cd_X0_isComing, gw_mem 122 (by decide +kernel) rfl, gw_mem 1069 (by decide +kernel) rfl, gw_mem 30 (by decide +kernel) rfl, ⟨_, rfl, rfl⟩, by decide, by decide, by decide +kernel⟩
theorem fl_X7_27 : FL RX7 27 7 5 := ⟨(RX7, TX7, 7), rfl, by decide, rfl, gw_mem 417 (by decide +kernel) rfl, iu_X7⟩
theorem mm_X0_203 : MM RX0 203 Lib.Math.abs.name Lib.Math.abs.code 1 (some .int) := ⟨gw_mem 972 (by decide +kernel) rfl, gw_mem 973 (by decide +kernel) rfl, gw_mem 128 (by decide +kernel) rfl, gw_mem 974 (by decide +kernel) rfl⟩
theorem mm_X0_217 : MM RX0 217 Lib.MathLoose.min_long.x Lib.MathLoose.min_long.code 4 (some .long) := ⟨gw_mem 978 (by decide +kernel) rfl, gw_mem 979 (by decide +kernel) rfl, gw_mem 128 (by decide +kernel) rfl, gw_mem 980 (by decide +kernel) rfl⟩
theorem mm_X0_221 : MM RX0 221 Lib.MathLoose.max_long.x Lib.MathLoose.max_long.code 4 (some .long) := ⟨gw_mem 981 (by decide +kernel) rfl, gw_mem 982 (by decide +kernel) rfl, gw_mem 128 (by decide +kernel) rfl, gw_mem 983 (by decide +kernel) rfl⟩
theorem fl_X0_69 : FL RX0 69 0 15 := ⟨(RX0, TX0, 17), rfl, by decide, rfl, gw_mem 474 (by decide +kernel) rfl, iu_X0⟩
theorem fl_X0_72 : FL RX0 72 0 16 := ⟨(RX0, TX0, 17), rfl, by decide, rfl, gw_mem 475 (by decide +kernel) rfl, iu_X0⟩
theorem ct_X0_191 : Cond.constantLong RX0 191 (33554432) ∈ gw := gw_mem 948 (by decide +kernel) rfl
theorem fl_X0_66 : FL RX0 66 0 14 := ⟨(RX0, TX0, 17), rfl, by decide, rfl, gw_mem 473 (by decide +kernel) rfl, iu_X0⟩
theorem ms_X0_196 : MS RX0 196 yX0_within cX0_within 3 (some .int) 2 := ⟨gw_mem 975 (by decide +kernel) rfl, cd_X0_within, gw_mem 122 (by decide +kernel) rfl, gw_mem 976 (by decide +kernel) rfl, by decide, by decide, by decide +kernel⟩
theorem mv_X0_193 : MV RX0 193 0 yX0_plainLiking cX0_plainLiking 4 (some .int) 2 := ⟨gw_mem 968 (by decide +kernel) rfl, cd_X0_plainLiking, gw_mem 122 (by decide +kernel) rfl, gw_mem 970 (by decide +kernel) rfl, gw_mem 28 (by decide +kernel) rfl, ⟨_, rfl, rfl⟩, by decide, by decide, by decide +kernel⟩
theorem fl_X0_59 : FL RX0 59 0 12 := ⟨(RX0, TX0, 17), rfl, by decide, rfl, gw_mem 471 (by decide +kernel) rfl, iu_X0⟩
theorem ms_X0_179 : MS RX0 179 yJ7_fill_53178 cJ7_fill_53178 4 none 2 := ⟨gw_mem 1079 (by decide +kernel) rfl, cd_J7_fill_53178, gw_mem 121 (by decide +kernel) rfl, gw_mem 395 (by decide +kernel) rfl, by decide, by decide, by decide +kernel⟩
theorem fl_X0_173 : FL RX0 173 7 0 := ⟨(RX7, TX7, 7), rfl, by decide, rfl, gw_mem 403 (by decide +kernel) rfl, iu_X7⟩
theorem mv_X0_182 : MV RX0 182 7 yX7_isRoped cX7_isRoped 2 (some .boolean) 1 := ⟨gw_mem 1080 (by decide +kernel) rfl, cd_X7_isRoped, gw_mem 120 (by decide +kernel) rfl, gw_mem 882 (by decide +kernel) rfl, gw_mem 883 (by decide +kernel) rfl, ⟨_, rfl, rfl⟩, by decide, by decide, by decide +kernel⟩
theorem mv_X0_160 : MV RX0 160 0 yX0_likes cX0_likes 9 (some .int) 3 := ⟨gw_mem 1081 (by decide +kernel) rfl, cd_X0_likes, gw_mem 122 (by decide +kernel) rfl, gw_mem 937 (by decide +kernel) rfl, gw_mem 938 (by decide +kernel) rfl, ⟨_, rfl, rfl⟩, by decide, by decide, by decide +kernel⟩
theorem fl_X0_214 : FL RX0 214 2 14 := ⟨(RX2, TX2, 16), rfl, by decide, rfl, gw_mem 224 (by decide +kernel) rfl, iu_X2⟩
theorem fl_X2_27 : FL RX2 27 2 4 := ⟨(RX2, TX2, 16), rfl, by decide, rfl, gw_mem 190 (by decide +kernel) rfl, iu_X2⟩
theorem mv_X2_80 : MV RX2 80 2 yX2_leads cX2_leads 3 (some .boolean) 2 := ⟨gw_mem 1094 (by decide +kernel) rfl, cd_X2_leads, gw_mem 112 (by decide +kernel) rfl, gw_mem 823 (by decide +kernel) rfl, gw_mem 824 (by decide +kernel) rfl, ⟨_, rfl, rfl⟩, by decide, by decide, by decide +kernel⟩
theorem mv_X0_147 : MV RX0 147 0 yX0_seat cX0_seat 6 (some .int) 1 := ⟨gw_mem 1075 (by decide +kernel) rfl, cd_X0_seat, gw_mem 122 (by decide +kernel) rfl, gw_mem 1076 (by decide +kernel) rfl, gw_mem 1077 (by decide +kernel) rfl, ⟨_, rfl, rfl⟩, by decide, by decide, by decide +kernel⟩
theorem fl_X0_153 : FL RX0 153 7 4 := ⟨(RX7, TX7, 7), rfl, by decide, rfl, gw_mem 415 (by decide +kernel) rfl, iu_X7⟩
theorem mv_X0_156 : MV RX0 156 0 yX0_leastLiked cX0_leastLiked 8 (some .int) 2 := ⟨gw_mem 1082 (by decide +kernel) rfl, cd_X0_leastLiked, gw_mem 122 (by decide +kernel) rfl, gw_mem 1084 (by decide +kernel) rfl, gw_mem 32 (by decide +kernel) rfl, ⟨_, rfl, rfl⟩, by decide, by decide, by decide +kernel⟩
theorem mv_X0_164 : MV RX0 164 0 yX0_bears cX0_bears 6 (some .int) 3 := ⟨gw_mem 1086 (by decide +kernel) rfl, cd_X0_bears, gw_mem 122 (by decide +kernel) rfl, gw_mem 1088 (by decide +kernel) rfl, gw_mem 33 (by decide +kernel) rfl, ⟨_, rfl, rfl⟩, by decide, by decide, by decide +kernel⟩
theorem mv_X0_167 : MV RX0 167 2 yX2_firstBehind cX2_firstBehind 3 (some .int) 1 := ⟨gw_mem 1090 (by decide +kernel) rfl, cd_X2_firstBehind, gw_mem 112 (by decide +kernel) rfl, gw_mem 1091 (by decide +kernel) rfl, gw_mem 1092 (by decide +kernel) rfl, ⟨_, rfl, rfl⟩, by decide, by decide, by decide +kernel⟩
theorem fl_X0_176 : FL RX0 176 7 1 := ⟨(RX7, TX7, 7), rfl, by decide, rfl, gw_mem 406 (by decide +kernel) rfl, iu_X7⟩
theorem fl_X0_9 : FL RX0 9 0 0 := ⟨(RX0, TX0, 17), rfl, by decide, rfl, gw_mem 452 (by decide +kernel) rfl, iu_X0⟩
theorem fl_X0_170 : FL RX0 170 7 2 := ⟨(RX7, TX7, 7), rfl, by decide, rfl, gw_mem 409 (by decide +kernel) rfl, iu_X7⟩
theorem fl_X0_15 : FL RX0 15 0 1 := ⟨(RX0, TX0, 17), rfl, by decide, rfl, gw_mem 454 (by decide +kernel) rfl, iu_X0⟩
theorem mv_X0_117 : MV RX0 117 0 yX0_comers cX0_comers 3 (some .int) 0 := ⟨gw_mem 1062 (by decide +kernel) rfl, cd_X0_comers, gw_mem 122 (by decide +kernel) rfl, gw_mem 1063 (by decide +kernel) rfl, gw_mem 1064 (by decide +kernel) rfl, ⟨_, rfl, rfl⟩, by decide, by decide, by decide +kernel⟩
theorem mv_X0_124 : MV RX0 124 0 yX0_visit cX0_visit 5 none 1 := ⟨gw_mem 1071 (by decide +kernel) rfl, cd_X0_visit, gw_mem 122 (by decide +kernel) rfl, gw_mem 1073 (by decide +kernel) rfl, gw_mem 31 (by decide +kernel) rfl, ⟨_, rfl, rfl⟩, by decide, by decide, by decide +kernel⟩
theorem fp_X0_96 : FP RX0 96 7 6 .int := ⟨(RX7, TX7, 7), rfl, by decide, rfl, gw_mem 421 (by decide +kernel) rfl, iu_X7, ⟨tyX7, tyX7_ok⟩, nmX7, rfl, by decide +kernel⟩
theorem fl_X2_64 : FL RX2 64 2 15 := ⟨(RX2, TX2, 16), rfl, by decide, rfl, gw_mem 225 (by decide +kernel) rfl, iu_X2⟩
theorem fl_X2_61 : FL RX2 61 2 14 := ⟨(RX2, TX2, 16), rfl, by decide, rfl, gw_mem 223 (by decide +kernel) rfl, iu_X2⟩
theorem fl_X2_57 : FL RX2 57 2 13 := ⟨(RX2, TX2, 16), rfl, by decide, rfl, gw_mem 221 (by decide +kernel) rfl, iu_X2⟩
theorem mv_X0_227 : MV RX0 227 2 yX2_lawOf cX2_lawOf 2 (some (.object "DeadMonday$Law")) 1 := ⟨gw_mem 993 (by decide +kernel) rfl, cd_X2_lawOf, gw_mem 112 (by decide +kernel) rfl, gw_mem 757 (by decide +kernel) rfl, gw_mem 758 (by decide +kernel) rfl, ⟨_, rfl, rfl⟩, by decide, by decide, by decide +kernel⟩
theorem fl_X1_39 : FL RX1 39 1 8 := ⟨(RX1, TX1, 10), rfl, by decide, rfl, gw_mem 582 (by decide +kernel) rfl, iu_X1⟩
theorem ms_X1_68 : MS RX1 68 yJ7_fill_53178 cJ7_fill_53178 4 none 2 := ⟨gw_mem 1153 (by decide +kernel) rfl, cd_J7_fill_53178, gw_mem 121 (by decide +kernel) rfl, gw_mem 395 (by decide +kernel) rfl, by decide, by decide, by decide +kernel⟩
theorem fl_X1_19 : FL RX1 19 1 2 := ⟨(RX1, TX1, 10), rfl, by decide, rfl, gw_mem 576 (by decide +kernel) rfl, iu_X1⟩
theorem mv_X1_45 : MV RX1 45 2 yX2_told cX2_told 2 (some .int) 1 := ⟨gw_mem 1147 (by decide +kernel) rfl, cd_X2_told, gw_mem 112 (by decide +kernel) rfl, gw_mem 796 (by decide +kernel) rfl, gw_mem 797 (by decide +kernel) rfl, ⟨_, rfl, rfl⟩, by decide, by decide, by decide +kernel⟩
theorem fl_X1_74 : FL RX1 74 7 0 := ⟨(RX7, TX7, 7), rfl, by decide, rfl, gw_mem 398 (by decide +kernel) rfl, iu_X7⟩
theorem mv_X1_77 : MV RX1 77 2 yX2_has cX2_has 3 (some .boolean) 2 := ⟨gw_mem 1154 (by decide +kernel) rfl, cd_X2_has, gw_mem 112 (by decide +kernel) rfl, gw_mem 878 (by decide +kernel) rfl, gw_mem 879 (by decide +kernel) rfl, ⟨_, rfl, rfl⟩, by decide, by decide, by decide +kernel⟩
theorem mv_X1_81 : MV RX1 81 0 yX0_likes cX0_likes 9 (some .int) 3 := ⟨gw_mem 1155 (by decide +kernel) rfl, cd_X0_likes, gw_mem 122 (by decide +kernel) rfl, gw_mem 937 (by decide +kernel) rfl, gw_mem 938 (by decide +kernel) rfl, ⟨_, rfl, rfl⟩, by decide, by decide, by decide +kernel⟩
theorem fl_X1_22 : FL RX1 22 1 3 := ⟨(RX1, TX1, 10), rfl, by decide, rfl, gw_mem 577 (by decide +kernel) rfl, iu_X1⟩
theorem fl_X1_36 : FL RX1 36 1 7 := ⟨(RX1, TX1, 10), rfl, by decide, rfl, gw_mem 581 (by decide +kernel) rfl, iu_X1⟩
theorem fl_X1_42 : FL RX1 42 1 9 := ⟨(RX1, TX1, 10), rfl, by decide, rfl, gw_mem 583 (by decide +kernel) rfl, iu_X1⟩
theorem fl_X1_28 : FL RX1 28 1 5 := ⟨(RX1, TX1, 10), rfl, by decide, rfl, gw_mem 579 (by decide +kernel) rfl, iu_X1⟩
theorem mm_X1_87 : MM RX1 87 Lib.Math.max.name Lib.Math.max.code 2 (some .int) := ⟨gw_mem 1156 (by decide +kernel) rfl, gw_mem 703 (by decide +kernel) rfl, gw_mem 128 (by decide +kernel) rfl, gw_mem 704 (by decide +kernel) rfl⟩
theorem fl_X1_25 : FL RX1 25 1 4 := ⟨(RX1, TX1, 10), rfl, by decide, rfl, gw_mem 578 (by decide +kernel) rfl, iu_X1⟩
theorem fl_X1_15 : FL RX1 15 1 1 := ⟨(RX1, TX1, 10), rfl, by decide, rfl, gw_mem 574 (by decide +kernel) rfl, iu_X1⟩
theorem fp_X1_15 : FP RX1 15 1 1 .int := ⟨(RX1, TX1, 10), rfl, by decide, rfl, gw_mem 574 (by decide +kernel) rfl, iu_X1, ⟨tyX1, tyX1_ok⟩, nmX1, rfl, by decide +kernel⟩
theorem fl_X1_31 : FL RX1 31 1 6 := ⟨(RX1, TX1, 10), rfl, by decide, rfl, gw_mem 580 (by decide +kernel) rfl, iu_X1⟩
theorem fl_X1_11 : FL RX1 11 1 0 := ⟨(RX1, TX1, 10), rfl, by decide, rfl, gw_mem 572 (by decide +kernel) rfl, iu_X1⟩
theorem mc_X1_97 : Cond.methodLink RX1 97 arraycopyName ∈ gw := gw_mem 1165 (by decide +kernel) rfl
theorem mc_all : Cond.native arraycopyName ∈ gw ∧ Cond.static arraycopyName ∈ gw ∧ Cond.initialized "java/lang/System" ∈ gw := ⟨gw_mem 707 (by decide +kernel) rfl, gw_mem 706 (by decide +kernel) rfl, gw_mem 129 (by decide +kernel) rfl⟩
theorem mv_X1_93 : MV RX1 93 1 yX1_put cX1_put 5 none 2 := ⟨gw_mem 1166 (by decide +kernel) rfl, cd_X1_put, gw_mem 125 (by decide +kernel) rfl, gw_mem 1168 (by decide +kernel) rfl, gw_mem 38 (by decide +kernel) rfl, ⟨_, rfl, rfl⟩, by decide, by decide, by decide +kernel⟩
theorem mv_X1_64 : MV RX1 64 1 yX1_hangFrom cX1_hangFrom 4 none 1 := ⟨gw_mem 1157 (by decide +kernel) rfl, cd_X1_hangFrom, gw_mem 125 (by decide +kernel) rfl, gw_mem 1159 (by decide +kernel) rfl, gw_mem 36 (by decide +kernel) rfl, ⟨_, rfl, rfl⟩, by decide, by decide, by decide +kernel⟩
theorem mv_X1_90 : MV RX1 90 1 yX1_compare cX1_compare 3 none 0 := ⟨gw_mem 1161 (by decide +kernel) rfl, cd_X1_compare, gw_mem 125 (by decide +kernel) rfl, gw_mem 1163 (by decide +kernel) rfl, gw_mem 37 (by decide +kernel) rfl, ⟨_, rfl, rfl⟩, by decide, by decide, by decide +kernel⟩
theorem mm_X1_51 : MM RX1 51 Lib.Math.min.name Lib.Math.min.code 2 (some .int) := ⟨gw_mem 1148 (by decide +kernel) rfl, gw_mem 700 (by decide +kernel) rfl, gw_mem 128 (by decide +kernel) rfl, gw_mem 701 (by decide +kernel) rfl⟩
theorem fp_X1_19 : FP RX1 19 1 2 .int := ⟨(RX1, TX1, 10), rfl, by decide, rfl, gw_mem 576 (by decide +kernel) rfl, iu_X1, ⟨tyX1, tyX1_ok⟩, nmX1, rfl, by decide +kernel⟩
theorem fp_X1_22 : FP RX1 22 1 3 .int := ⟨(RX1, TX1, 10), rfl, by decide, rfl, gw_mem 577 (by decide +kernel) rfl, iu_X1, ⟨tyX1, tyX1_ok⟩, nmX1, rfl, by decide +kernel⟩
theorem fp_X1_25 : FP RX1 25 1 4 .int := ⟨(RX1, TX1, 10), rfl, by decide, rfl, gw_mem 578 (by decide +kernel) rfl, iu_X1, ⟨tyX1, tyX1_ok⟩, nmX1, rfl, by decide +kernel⟩
theorem fl_X1_57 : FL RX1 57 7 5 := ⟨(RX7, TX7, 7), rfl, by decide, rfl, gw_mem 418 (by decide +kernel) rfl, iu_X7⟩
theorem fp_X1_28 : FP RX1 28 1 5 .int := ⟨(RX1, TX1, 10), rfl, by decide, rfl, gw_mem 579 (by decide +kernel) rfl, iu_X1, ⟨tyX1, tyX1_ok⟩, nmX1, rfl, by decide +kernel⟩
theorem mv_X1_60 : MV RX1 60 1 yX1_weigh cX1_weigh 7 none 4 := ⟨gw_mem 1149 (by decide +kernel) rfl, cd_X1_weigh, gw_mem 125 (by decide +kernel) rfl, gw_mem 1151 (by decide +kernel) rfl, gw_mem 35 (by decide +kernel) rfl, ⟨_, rfl, rfl⟩, by decide, by decide, by decide +kernel⟩
theorem fp_X3_9 : FP RX3 9 3 0 .boolean := ⟨(RX3, TX3, 6), rfl, by decide, rfl, gw_mem 158 (by decide +kernel) rfl, iu_X3, ⟨tyX3, tyX3_ok⟩, nmX3, rfl, by decide +kernel⟩
theorem fp_X3_15 : FP RX3 15 3 1 .int := ⟨(RX3, TX3, 6), rfl, by decide, rfl, gw_mem 160 (by decide +kernel) rfl, iu_X3, ⟨tyX3, tyX3_ok⟩, nmX3, rfl, by decide +kernel⟩
theorem fp_X3_19 : FP RX3 19 3 2 .int := ⟨(RX3, TX3, 6), rfl, by decide, rfl, gw_mem 161 (by decide +kernel) rfl, iu_X3, ⟨tyX3, tyX3_ok⟩, nmX3, rfl, by decide +kernel⟩
theorem ms_X2_67 : MS RX2 67 yJ7_fill_53178 cJ7_fill_53178 4 none 2 := ⟨gw_mem 690 (by decide +kernel) rfl, cd_J7_fill_53178, gw_mem 121 (by decide +kernel) rfl, gw_mem 395 (by decide +kernel) rfl, by decide, by decide, by decide +kernel⟩
theorem fp_X2_15 : FP RX2 15 2 1 .int := ⟨(RX2, TX2, 16), rfl, by decide, rfl, gw_mem 182 (by decide +kernel) rfl, iu_X2, ⟨tyX2, tyX2_ok⟩, nmX2, rfl, by decide +kernel⟩
theorem fp_X2_19 : FP RX2 19 2 2 .int := ⟨(RX2, TX2, 16), rfl, by decide, rfl, gw_mem 185 (by decide +kernel) rfl, iu_X2, ⟨tyX2, tyX2_ok⟩, nmX2, rfl, by decide +kernel⟩
theorem mv_X2_73 : MV RX2 73 3 yX3_clear cX3_clear 1 none 0 := ⟨gw_mem 691 (by decide +kernel) rfl, cd_X3_clear, gw_mem 113 (by decide +kernel) rfl, gw_mem 692 (by decide +kernel) rfl, gw_mem 693 (by decide +kernel) rfl, ⟨_, rfl, rfl⟩, by decide, by decide, by decide +kernel⟩
theorem fl_X2_24 : FL RX2 24 2 3 := ⟨(RX2, TX2, 16), rfl, by decide, rfl, gw_mem 188 (by decide +kernel) rfl, iu_X2⟩
theorem fp_X4_9 : FP RX4 9 4 0 .int := ⟨(RX4, TX4, 8), rfl, by decide, rfl, gw_mem 517 (by decide +kernel) rfl, iu_X4, ⟨tyX4, tyX4_ok⟩, nmX4, rfl, by decide +kernel⟩
theorem fp_X4_15 : FP RX4 15 4 1 .int := ⟨(RX4, TX4, 8), rfl, by decide, rfl, gw_mem 519 (by decide +kernel) rfl, iu_X4, ⟨tyX4, tyX4_ok⟩, nmX4, rfl, by decide +kernel⟩
theorem fl_X4_15 : FL RX4 15 4 1 := ⟨(RX4, TX4, 8), rfl, by decide, rfl, gw_mem 519 (by decide +kernel) rfl, iu_X4⟩
theorem fl_X4_9 : FL RX4 9 4 0 := ⟨(RX4, TX4, 8), rfl, by decide, rfl, gw_mem 517 (by decide +kernel) rfl, iu_X4⟩
theorem mm_X4_38 : MM RX4 38 Lib.Math.min.name Lib.Math.min.code 2 (some .int) := ⟨gw_mem 1006 (by decide +kernel) rfl, gw_mem 700 (by decide +kernel) rfl, gw_mem 128 (by decide +kernel) rfl, gw_mem 701 (by decide +kernel) rfl⟩
theorem fl_X4_18 : FL RX4 18 4 2 := ⟨(RX4, TX4, 8), rfl, by decide, rfl, gw_mem 521 (by decide +kernel) rfl, iu_X4⟩
theorem fl_X4_22 : FL RX4 22 4 3 := ⟨(RX4, TX4, 8), rfl, by decide, rfl, gw_mem 522 (by decide +kernel) rfl, iu_X4⟩
theorem fl_X4_25 : FL RX4 25 4 4 := ⟨(RX4, TX4, 8), rfl, by decide, rfl, gw_mem 523 (by decide +kernel) rfl, iu_X4⟩
theorem fl_X4_28 : FL RX4 28 4 5 := ⟨(RX4, TX4, 8), rfl, by decide, rfl, gw_mem 524 (by decide +kernel) rfl, iu_X4⟩
theorem fl_X4_32 : FL RX4 32 4 6 := ⟨(RX4, TX4, 8), rfl, by decide, rfl, gw_mem 525 (by decide +kernel) rfl, iu_X4⟩
theorem mv_X4_44 : MV RX4 44 4 yX4_add cX4_add 5 (some .int) 4 := ⟨gw_mem 1251 (by decide +kernel) rfl, cd_X4_add, gw_mem 123 (by decide +kernel) rfl, gw_mem 1240 (by decide +kernel) rfl, gw_mem 1241 (by decide +kernel) rfl, ⟨_, rfl, rfl⟩, by decide, by decide, by decide +kernel⟩
theorem fl_X4_35 : FL RX4 35 4 7 := ⟨(RX4, TX4, 8), rfl, by decide, rfl, gw_mem 526 (by decide +kernel) rfl, iu_X4⟩
theorem mv_X4_48 : MV RX4 48 4 yX4_knownBy cX4_knownBy 1 (some .int) 0 := ⟨gw_mem 1264 (by decide +kernel) rfl, cd_X4_knownBy, gw_mem 123 (by decide +kernel) rfl, gw_mem 1003 (by decide +kernel) rfl, gw_mem 1004 (by decide +kernel) rfl, ⟨_, rfl, rfl⟩, by decide, by decide, by decide +kernel⟩
theorem fl_X4_65 : FL RX4 65 7 0 := ⟨(RX7, TX7, 7), rfl, by decide, rfl, gw_mem 402 (by decide +kernel) rfl, iu_X7⟩
theorem mm_X4_52 : MM RX4 52 Lib.Math.max.name Lib.Math.max.code 2 (some .int) := ⟨gw_mem 1269 (by decide +kernel) rfl, gw_mem 703 (by decide +kernel) rfl, gw_mem 128 (by decide +kernel) rfl, gw_mem 704 (by decide +kernel) rfl⟩
theorem mv_X4_55 : MV RX4 55 0 yX0_pass cX0_pass 5 none 1 := ⟨gw_mem 1270 (by decide +kernel) rfl, cd_X0_pass, gw_mem 122 (by decide +kernel) rfl, gw_mem 1059 (by decide +kernel) rfl, gw_mem 1060 (by decide +kernel) rfl, ⟨_, rfl, rfl⟩, by decide, by decide, by decide +kernel⟩
theorem mv_X4_61 : MV RX4 61 4 yX4_areSo cX4_areSo 5 (some .boolean) 2 := ⟨gw_mem 1271 (by decide +kernel) rfl, cd_X4_areSo, gw_mem 123 (by decide +kernel) rfl, gw_mem 1273 (by decide +kernel) rfl, gw_mem 42 (by decide +kernel) rfl, ⟨_, rfl, rfl⟩, by decide, by decide, by decide +kernel⟩
theorem fl_X9_40 : FL RX9 40 9 9 := ⟨(RX9, TX9, 11), rfl, by decide, rfl, gw_mem 333 (by decide +kernel) rfl, iu_X9⟩
theorem fl_X9_37 : FL RX9 37 9 8 := ⟨(RX9, TX9, 11), rfl, by decide, rfl, gw_mem 332 (by decide +kernel) rfl, iu_X9⟩
theorem fl_X9_43 : FL RX9 43 9 10 := ⟨(RX9, TX9, 11), rfl, by decide, rfl, gw_mem 334 (by decide +kernel) rfl, iu_X9⟩
theorem mv_X9_79 : MV RX9 79 9 yX9_signAt cX9_signAt 2 (some .int) 1 := ⟨gw_mem 712 (by decide +kernel) rfl, cd_X9_signAt, gw_mem 115 (by decide +kernel) rfl, gw_mem 714 (by decide +kernel) rfl, gw_mem 2 (by decide +kernel) rfl, ⟨_, rfl, rfl⟩, by decide, by decide, by decide +kernel⟩
theorem ms_X9_83 : MS RX9 83 yX9_isLetter cX9_isLetter 1 (some .boolean) 1 := ⟨gw_mem 716 (by decide +kernel) rfl, cd_X9_isLetter, gw_mem 115 (by decide +kernel) rfl, gw_mem 717 (by decide +kernel) rfl, by decide, by decide, by decide +kernel⟩
theorem fl_X9_15 : FL RX9 15 9 1 := ⟨(RX9, TX9, 11), rfl, by decide, rfl, gw_mem 323 (by decide +kernel) rfl, iu_X9⟩
theorem fl_X9_18 : FL RX9 18 9 2 := ⟨(RX9, TX9, 11), rfl, by decide, rfl, gw_mem 325 (by decide +kernel) rfl, iu_X9⟩
theorem fp_X9_18 : FP RX9 18 9 2 .int := ⟨(RX9, TX9, 11), rfl, by decide, rfl, gw_mem 325 (by decide +kernel) rfl, iu_X9, ⟨tyX9, tyX9_ok⟩, nmX9, rfl, by decide +kernel⟩
theorem fp_X9_43 : FP RX9 43 9 10 .int := ⟨(RX9, TX9, 11), rfl, by decide, rfl, gw_mem 334 (by decide +kernel) rfl, iu_X9, ⟨tyX9, tyX9_ok⟩, nmX9, rfl, by decide +kernel⟩
theorem fp_X9_9 : FP RX9 9 9 0 .int := ⟨(RX9, TX9, 11), rfl, by decide, rfl, gw_mem 321 (by decide +kernel) rfl, iu_X9, ⟨tyX9, tyX9_ok⟩, nmX9, rfl, by decide +kernel⟩
theorem fl_X9_21 : FL RX9 21 9 3 := ⟨(RX9, TX9, 11), rfl, by decide, rfl, gw_mem 327 (by decide +kernel) rfl, iu_X9⟩
theorem fl_X9_9 : FL RX9 9 9 0 := ⟨(RX9, TX9, 11), rfl, by decide, rfl, gw_mem 321 (by decide +kernel) rfl, iu_X9⟩
theorem ms_X9_90 : MS RX9 90 yX9_isDigit cX9_isDigit 1 (some .boolean) 1 := ⟨gw_mem 723 (by decide +kernel) rfl, cd_X9_isDigit, gw_mem 115 (by decide +kernel) rfl, gw_mem 724 (by decide +kernel) rfl, by decide, by decide, by decide +kernel⟩
theorem ct_X9_100 : Cond.constant RX9 100 (1000000) ∈ gw := gw_mem 730 (by decide +kernel) rfl
theorem mm_X9_58 : MM RX9 58 Lib.Math.min.name Lib.Math.min.code 2 (some .int) := ⟨gw_mem 699 (by decide +kernel) rfl, gw_mem 700 (by decide +kernel) rfl, gw_mem 128 (by decide +kernel) rfl, gw_mem 701 (by decide +kernel) rfl⟩
theorem mv_X9_101 : MV RX9 101 9 yX9_joins cX9_joins 2 (some .boolean) 1 := ⟨gw_mem 735 (by decide +kernel) rfl, cd_X9_joins, gw_mem 115 (by decide +kernel) rfl, gw_mem 737 (by decide +kernel) rfl, gw_mem 6 (by decide +kernel) rfl, ⟨_, rfl, rfl⟩, by decide, by decide, by decide +kernel⟩
theorem fp_X9_15 : FP RX9 15 9 1 .int := ⟨(RX9, TX9, 11), rfl, by decide, rfl, gw_mem 323 (by decide +kernel) rfl, iu_X9, ⟨tyX9, tyX9_ok⟩, nmX9, rfl, by decide +kernel⟩
theorem mv_X9_96 : MV RX9 96 9 yX9_cutSign cX9_cutSign 2 none 1 := ⟨gw_mem 731 (by decide +kernel) rfl, cd_X9_cutSign, gw_mem 115 (by decide +kernel) rfl, gw_mem 733 (by decide +kernel) rfl, gw_mem 5 (by decide +kernel) rfl, ⟨_, rfl, rfl⟩, by decide, by decide, by decide +kernel⟩
theorem mv_X9_93 : MV RX9 93 9 yX9_cutNumber cX9_cutNumber 1 none 0 := ⟨gw_mem 726 (by decide +kernel) rfl, cd_X9_cutNumber, gw_mem 115 (by decide +kernel) rfl, gw_mem 728 (by decide +kernel) rfl, gw_mem 4 (by decide +kernel) rfl, ⟨_, rfl, rfl⟩, by decide, by decide, by decide +kernel⟩
theorem mv_X9_87 : MV RX9 87 9 yX9_cutWord cX9_cutWord 3 none 0 := ⟨gw_mem 719 (by decide +kernel) rfl, cd_X9_cutWord, gw_mem 115 (by decide +kernel) rfl, gw_mem 721 (by decide +kernel) rfl, gw_mem 3 (by decide +kernel) rfl, ⟨_, rfl, rfl⟩, by decide, by decide, by decide +kernel⟩
theorem fl_X9_34 : FL RX9 34 9 7 := ⟨(RX9, TX9, 11), rfl, by decide, rfl, gw_mem 331 (by decide +kernel) rfl, iu_X9⟩
theorem fl_X9_25 : FL RX9 25 9 4 := ⟨(RX9, TX9, 11), rfl, by decide, rfl, gw_mem 328 (by decide +kernel) rfl, iu_X9⟩
theorem fp_X9_34 : FP RX9 34 9 7 .int := ⟨(RX9, TX9, 11), rfl, by decide, rfl, gw_mem 331 (by decide +kernel) rfl, iu_X9, ⟨tyX9, tyX9_ok⟩, nmX9, rfl, by decide +kernel⟩
theorem fl_X9_28 : FL RX9 28 9 5 := ⟨(RX9, TX9, 11), rfl, by decide, rfl, gw_mem 329 (by decide +kernel) rfl, iu_X9⟩
theorem fl_X9_31 : FL RX9 31 9 6 := ⟨(RX9, TX9, 11), rfl, by decide, rfl, gw_mem 330 (by decide +kernel) rfl, iu_X9⟩
theorem mm_X9_64 : MM RX9 64 Lib.Math.max.name Lib.Math.max.code 2 (some .int) := ⟨gw_mem 702 (by decide +kernel) rfl, gw_mem 703 (by decide +kernel) rfl, gw_mem 128 (by decide +kernel) rfl, gw_mem 704 (by decide +kernel) rfl⟩
theorem fp_X9_40 : FP RX9 40 9 9 .int := ⟨(RX9, TX9, 11), rfl, by decide, rfl, gw_mem 333 (by decide +kernel) rfl, iu_X9, ⟨tyX9, tyX9_ok⟩, nmX9, rfl, by decide +kernel⟩
theorem mc_X9_67 : Cond.methodLink RX9 67 arraycopyName ∈ gw := gw_mem 705 (by decide +kernel) rfl
theorem mv_X9_73 : MV RX9 73 9 yX9_cutOne cX9_cutOne 2 none 0 := ⟨gw_mem 708 (by decide +kernel) rfl, cd_X9_cutOne, gw_mem 115 (by decide +kernel) rfl, gw_mem 710 (by decide +kernel) rfl, gw_mem 1 (by decide +kernel) rfl, ⟨_, rfl, rfl⟩, by decide, by decide, by decide +kernel⟩
theorem mv_X9_76 : MV RX9 76 9 yX9_next cX9_next 1 none 0 := ⟨gw_mem 739 (by decide +kernel) rfl, cd_X9_next, gw_mem 115 (by decide +kernel) rfl, gw_mem 740 (by decide +kernel) rfl, gw_mem 741 (by decide +kernel) rfl, ⟨_, rfl, rfl⟩, by decide, by decide, by decide +kernel⟩
theorem fp_X5_9 : FP RX5 9 5 0 .int := ⟨(RX5, TX5, 8), rfl, by decide, rfl, gw_mem 361 (by decide +kernel) rfl, iu_X5, ⟨tyX5, tyX5_ok⟩, nmX5, rfl, by decide +kernel⟩
theorem fl_X5_21 : FL RX5 21 5 2 := ⟨(RX5, TX5, 8), rfl, by decide, rfl, gw_mem 365 (by decide +kernel) rfl, iu_X5⟩
theorem fl_X5_69 : FL RX5 69 9 1 := ⟨(RX9, TX9, 11), rfl, by decide, rfl, gw_mem 324 (by decide +kernel) rfl, iu_X9⟩
theorem fp_X5_15 : FP RX5 15 5 1 .int := ⟨(RX5, TX5, 8), rfl, by decide, rfl, gw_mem 363 (by decide +kernel) rfl, iu_X5, ⟨tyX5, tyX5_ok⟩, nmX5, rfl, by decide +kernel⟩
theorem fl_X5_39 : FL RX5 39 5 6 := ⟨(RX5, TX5, 8), rfl, by decide, rfl, gw_mem 369 (by decide +kernel) rfl, iu_X5⟩
theorem fl_X5_35 : FL RX5 35 5 5 := ⟨(RX5, TX5, 8), rfl, by decide, rfl, gw_mem 368 (by decide +kernel) rfl, iu_X5⟩
theorem mv_X5_178 : MV RX5 178 5 yX5_latest cX5_latest 1 (some .int) 0 := ⟨gw_mem 772 (by decide +kernel) rfl, cd_X5_latest, gw_mem 114 (by decide +kernel) rfl, gw_mem 774 (by decide +kernel) rfl, gw_mem 13 (by decide +kernel) rfl, ⟨_, rfl, rfl⟩, by decide, by decide, by decide +kernel⟩
theorem ms_X5_182 : MS RX5 182 yX5_rank cX5_rank 1 (some .int) 1 := ⟨gw_mem 776 (by decide +kernel) rfl, cd_X5_rank, gw_mem 114 (by decide +kernel) rfl, gw_mem 777 (by decide +kernel) rfl, by decide, by decide, by decide +kernel⟩
theorem mv_X5_188 : MV RX5 188 3 yX3_add cX3_add 3 none 2 := ⟨gw_mem 779 (by decide +kernel) rfl, cd_X3_add, gw_mem 113 (by decide +kernel) rfl, gw_mem 780 (by decide +kernel) rfl, gw_mem 781 (by decide +kernel) rfl, ⟨_, rfl, rfl⟩, by decide, by decide, by decide +kernel⟩
theorem fp_X5_39 : FP RX5 39 5 6 .int := ⟨(RX5, TX5, 8), rfl, by decide, rfl, gw_mem 369 (by decide +kernel) rfl, iu_X5, ⟨tyX5, tyX5_ok⟩, nmX5, rfl, by decide +kernel⟩
theorem fl_X5_28 : FL RX5 28 5 3 := ⟨(RX5, TX5, 8), rfl, by decide, rfl, gw_mem 366 (by decide +kernel) rfl, iu_X5⟩
theorem fl_X5_192 : FL RX5 192 2 2 := ⟨(RX2, TX2, 16), rfl, by decide, rfl, gw_mem 187 (by decide +kernel) rfl, iu_X2⟩
theorem fp_X5_192 : FP RX5 192 2 2 .int := ⟨(RX2, TX2, 16), rfl, by decide, rfl, gw_mem 187 (by decide +kernel) rfl, iu_X2, ⟨tyX2, tyX2_ok⟩, nmX2, rfl, by decide +kernel⟩
theorem mv_X5_59 : MV RX5 59 5 yX5_fail cX5_fail 2 (some .boolean) 1 := ⟨gw_mem 752 (by decide +kernel) rfl, cd_X5_fail, gw_mem 114 (by decide +kernel) rfl, gw_mem 754 (by decide +kernel) rfl, gw_mem 9 (by decide +kernel) rfl, ⟨_, rfl, rfl⟩, by decide, by decide, by decide +kernel⟩
theorem fl_X5_42 : FL RX5 42 5 7 := ⟨(RX5, TX5, 8), rfl, by decide, rfl, gw_mem 370 (by decide +kernel) rfl, iu_X5⟩
theorem fp_X5_42 : FP RX5 42 5 7 .int := ⟨(RX5, TX5, 8), rfl, by decide, rfl, gw_mem 370 (by decide +kernel) rfl, iu_X5, ⟨tyX5, tyX5_ok⟩, nmX5, rfl, by decide +kernel⟩
theorem mv_X5_171 : MV RX5 171 5 yX5_settle cX5_settle 4 none 2 := ⟨gw_mem 768 (by decide +kernel) rfl, cd_X5_settle, gw_mem 114 (by decide +kernel) rfl, gw_mem 770 (by decide +kernel) rfl, gw_mem 12 (by decide +kernel) rfl, ⟨_, rfl, rfl⟩, by decide, by decide, by decide +kernel⟩
theorem mv_X5_185 : MV RX5 185 5 yX5_countKnot cX5_countKnot 1 (some .boolean) 0 := ⟨gw_mem 783 (by decide +kernel) rfl, cd_X5_countKnot, gw_mem 114 (by decide +kernel) rfl, gw_mem 785 (by decide +kernel) rfl, gw_mem 14 (by decide +kernel) rfl, ⟨_, rfl, rfl⟩, by decide, by decide, by decide +kernel⟩
theorem mv_X5_175 : MV RX5 175 5 yX5_await cX5_await 2 (some .boolean) 1 := ⟨gw_mem 787 (by decide +kernel) rfl, cd_X5_await, gw_mem 114 (by decide +kernel) rfl, gw_mem 789 (by decide +kernel) rfl, gw_mem 15 (by decide +kernel) rfl, ⟨_, rfl, rfl⟩, by decide, by decide, by decide +kernel⟩
theorem fl_X5_110 : FL RX5 110 9 2 := ⟨(RX9, TX9, 11), rfl, by decide, rfl, gw_mem 326 (by decide +kernel) rfl, iu_X9⟩
theorem fl_X5_52 : FL RX5 52 9 0 := ⟨(RX9, TX9, 11), rfl, by decide, rfl, gw_mem 322 (by decide +kernel) rfl, iu_X9⟩
theorem mv_X5_168 : MV RX5 168 5 yX5_readValue cX5_readValue 3 (some .boolean) 2 := ⟨gw_mem 791 (by decide +kernel) rfl, cd_X5_readValue, gw_mem 114 (by decide +kernel) rfl, gw_mem 793 (by decide +kernel) rfl, gw_mem 16 (by decide +kernel) rfl, ⟨_, rfl, rfl⟩, by decide, by decide, by decide +kernel⟩
theorem mv_X5_164 : MV RX5 164 5 yX5_readBehindValue cX5_readBehindValue 4 (some .boolean) 2 := ⟨gw_mem 764 (by decide +kernel) rfl, cd_X5_readBehindValue, gw_mem 114 (by decide +kernel) rfl, gw_mem 766 (by decide +kernel) rfl, gw_mem 11 (by decide +kernel) rfl, ⟨_, rfl, rfl⟩, by decide, by decide, by decide +kernel⟩
theorem mv_X5_66 : MV RX5 66 9 yX9_next cX9_next 1 none 0 := ⟨gw_mem 751 (by decide +kernel) rfl, cd_X9_next, gw_mem 115 (by decide +kernel) rfl, gw_mem 740 (by decide +kernel) rfl, gw_mem 741 (by decide +kernel) rfl, ⟨_, rfl, rfl⟩, by decide, by decide, by decide +kernel⟩
theorem mv_X5_151 : MV RX5 151 2 yX2_lawOf cX2_lawOf 2 (some (.object "DeadMonday$Law")) 1 := ⟨gw_mem 756 (by decide +kernel) rfl, cd_X2_lawOf, gw_mem 112 (by decide +kernel) rfl, gw_mem 757 (by decide +kernel) rfl, gw_mem 758 (by decide +kernel) rfl, ⟨_, rfl, rfl⟩, by decide, by decide, by decide +kernel⟩
theorem fl_X5_155 : FL RX5 155 3 0 := ⟨(RX3, TX3, 6), rfl, by decide, rfl, gw_mem 159 (by decide +kernel) rfl, iu_X3⟩
theorem mv_X5_160 : MV RX5 160 5 yX5_readExpression cX5_readExpression 5 (some .boolean) 1 := ⟨gw_mem 760 (by decide +kernel) rfl, cd_X5_readExpression, gw_mem 114 (by decide +kernel) rfl, gw_mem 762 (by decide +kernel) rfl, gw_mem 10 (by decide +kernel) rfl, ⟨_, rfl, rfl⟩, by decide, by decide, by decide +kernel⟩
theorem fp_X5_155 : FP RX5 155 3 0 .boolean := ⟨(RX3, TX3, 6), rfl, by decide, rfl, gw_mem 159 (by decide +kernel) rfl, iu_X3, ⟨tyX3, tyX3_ok⟩, nmX3, rfl, by decide +kernel⟩
theorem mv_X5_113 : MV RX5 113 2 yX2_find cX2_find 4 (some .int) 2 := ⟨gw_mem 809 (by decide +kernel) rfl, cd_X2_find, gw_mem 112 (by decide +kernel) rfl, gw_mem 810 (by decide +kernel) rfl, gw_mem 811 (by decide +kernel) rfl, ⟨_, rfl, rfl⟩, by decide, by decide, by decide +kernel⟩
theorem fl_X5_117 : FL RX5 117 2 3 := ⟨(RX2, TX2, 16), rfl, by decide, rfl, gw_mem 189 (by decide +kernel) rfl, iu_X2⟩
theorem fp_X5_32 : FP RX5 32 5 4 .int := ⟨(RX5, TX5, 8), rfl, by decide, rfl, gw_mem 367 (by decide +kernel) rfl, iu_X5, ⟨tyX5, tyX5_ok⟩, nmX5, rfl, by decide +kernel⟩
theorem fl_X5_32 : FL RX5 32 5 4 := ⟨(RX5, TX5, 8), rfl, by decide, rfl, gw_mem 367 (by decide +kernel) rfl, iu_X5⟩
theorem mv_X5_121 : MV RX5 121 5 yX5_readRoom cX5_readRoom 1 (some .boolean) 0 := ⟨gw_mem 818 (by decide +kernel) rfl, cd_X5_readRoom, gw_mem 114 (by decide +kernel) rfl, gw_mem 820 (by decide +kernel) rfl, gw_mem 20 (by decide +kernel) rfl, ⟨_, rfl, rfl⟩, by decide, by decide, by decide +kernel⟩
theorem mv_X5_124 : MV RX5 124 2 yX2_leads cX2_leads 3 (some .boolean) 2 := ⟨gw_mem 822 (by decide +kernel) rfl, cd_X2_leads, gw_mem 112 (by decide +kernel) rfl, gw_mem 823 (by decide +kernel) rfl, gw_mem 824 (by decide +kernel) rfl, ⟨_, rfl, rfl⟩, by decide, by decide, by decide +kernel⟩
theorem fl_X5_127 : FL RX5 127 2 4 := ⟨(RX2, TX2, 16), rfl, by decide, rfl, gw_mem 191 (by decide +kernel) rfl, iu_X2⟩
theorem mv_X5_107 : MV RX5 107 5 yX5_readNumber cX5_readNumber 2 (some .boolean) 1 := ⟨gw_mem 834 (by decide +kernel) rfl, cd_X5_readNumber, gw_mem 114 (by decide +kernel) rfl, gw_mem 836 (by decide +kernel) rfl, gw_mem 23 (by decide +kernel) rfl, ⟨_, rfl, rfl⟩, by decide, by decide, by decide +kernel⟩
theorem mv_X5_87 : MV RX5 87 5 yX5_readName cX5_readName 3 (some .boolean) 2 := ⟨gw_mem 805 (by decide +kernel) rfl, cd_X5_readName, gw_mem 114 (by decide +kernel) rfl, gw_mem 807 (by decide +kernel) rfl, gw_mem 18 (by decide +kernel) rfl, ⟨_, rfl, rfl⟩, by decide, by decide, by decide +kernel⟩
theorem fl_X5_130 : FL RX5 130 2 5 := ⟨(RX2, TX2, 16), rfl, by decide, rfl, gw_mem 194 (by decide +kernel) rfl, iu_X2⟩
theorem fl_X5_133 : FL RX5 133 2 6 := ⟨(RX2, TX2, 16), rfl, by decide, rfl, gw_mem 197 (by decide +kernel) rfl, iu_X2⟩
theorem mv_X5_102 : MV RX5 102 5 yX5_readInto cX5_readInto 4 (some .boolean) 3 := ⟨gw_mem 830 (by decide +kernel) rfl, cd_X5_readInto, gw_mem 114 (by decide +kernel) rfl, gw_mem 832 (by decide +kernel) rfl, gw_mem 22 (by decide +kernel) rfl, ⟨_, rfl, rfl⟩, by decide, by decide, by decide +kernel⟩
theorem fl_X5_136 : FL RX5 136 2 7 := ⟨(RX2, TX2, 16), rfl, by decide, rfl, gw_mem 201 (by decide +kernel) rfl, iu_X2⟩
theorem fl_X5_139 : FL RX5 139 2 8 := ⟨(RX2, TX2, 16), rfl, by decide, rfl, gw_mem 205 (by decide +kernel) rfl, iu_X2⟩
theorem fl_X5_142 : FL RX5 142 2 9 := ⟨(RX2, TX2, 16), rfl, by decide, rfl, gw_mem 209 (by decide +kernel) rfl, iu_X2⟩
theorem fl_X5_145 : FL RX5 145 2 10 := ⟨(RX2, TX2, 16), rfl, by decide, rfl, gw_mem 214 (by decide +kernel) rfl, iu_X2⟩
theorem fl_X5_148 : FL RX5 148 2 11 := ⟨(RX2, TX2, 16), rfl, by decide, rfl, gw_mem 218 (by decide +kernel) rfl, iu_X2⟩
theorem mv_X5_90 : MV RX5 90 5 yX5_readDoor cX5_readDoor 3 (some .boolean) 0 := ⟨gw_mem 814 (by decide +kernel) rfl, cd_X5_readDoor, gw_mem 114 (by decide +kernel) rfl, gw_mem 816 (by decide +kernel) rfl, gw_mem 19 (by decide +kernel) rfl, ⟨_, rfl, rfl⟩, by decide, by decide, by decide +kernel⟩
theorem mv_X5_93 : MV RX5 93 5 yX5_readThing cX5_readThing 2 (some .boolean) 1 := ⟨gw_mem 826 (by decide +kernel) rfl, cd_X5_readThing, gw_mem 114 (by decide +kernel) rfl, gw_mem 828 (by decide +kernel) rfl, gw_mem 21 (by decide +kernel) rfl, ⟨_, rfl, rfl⟩, by decide, by decide, by decide +kernel⟩
theorem mv_X5_96 : MV RX5 96 5 yX5_readDead cX5_readDead 2 (some .boolean) 1 := ⟨gw_mem 838 (by decide +kernel) rfl, cd_X5_readDead, gw_mem 114 (by decide +kernel) rfl, gw_mem 840 (by decide +kernel) rfl, gw_mem 24 (by decide +kernel) rfl, ⟨_, rfl, rfl⟩, by decide, by decide, by decide +kernel⟩
theorem fl_X5_99 : FL RX5 99 2 12 := ⟨(RX2, TX2, 16), rfl, by decide, rfl, gw_mem 220 (by decide +kernel) rfl, iu_X2⟩
theorem ct_X5_106 : Cond.constant RX5 106 (99999) ∈ gw := gw_mem 842 (by decide +kernel) rfl
theorem mv_X5_73 : MV RX5 73 2 yX2_told cX2_told 2 (some .int) 1 := ⟨gw_mem 795 (by decide +kernel) rfl, cd_X2_told, gw_mem 112 (by decide +kernel) rfl, gw_mem 796 (by decide +kernel) rfl, gw_mem 797 (by decide +kernel) rfl, ⟨_, rfl, rfl⟩, by decide, by decide, by decide +kernel⟩
theorem fs_X5_77 : Cond.fieldLink RX5 77 "DeadMonday$Reader" "MOST" "[I" ∈ gw := gw_mem 799 (by decide +kernel) rfl
theorem mv_X5_80 : MV RX5 80 5 yX5_readRest cX5_readRest 3 (some .boolean) 2 := ⟨gw_mem 801 (by decide +kernel) rfl, cd_X5_readRest, gw_mem 114 (by decide +kernel) rfl, gw_mem 803 (by decide +kernel) rfl, gw_mem 17 (by decide +kernel) rfl, ⟨_, rfl, rfl⟩, by decide, by decide, by decide +kernel⟩
theorem fl_X5_84 : FL RX5 84 2 0 := ⟨(RX2, TX2, 16), rfl, by decide, rfl, gw_mem 181 (by decide +kernel) rfl, iu_X2⟩
theorem mv_X5_70 : MV RX5 70 5 yX5_readLaw cX5_readLaw 2 (some .boolean) 0 := ⟨gw_mem 747 (by decide +kernel) rfl, cd_X5_readLaw, gw_mem 114 (by decide +kernel) rfl, gw_mem 749 (by decide +kernel) rfl, gw_mem 8 (by decide +kernel) rfl, ⟨_, rfl, rfl⟩, by decide, by decide, by decide +kernel⟩
theorem mv_X5_45 : MV RX5 45 2 yX2_clear cX2_clear 1 none 0 := ⟨gw_mem 686 (by decide +kernel) rfl, cd_X2_clear, gw_mem 112 (by decide +kernel) rfl, gw_mem 687 (by decide +kernel) rfl, gw_mem 688 (by decide +kernel) rfl, ⟨_, rfl, rfl⟩, by decide, by decide, by decide +kernel⟩
theorem mv_X5_48 : MV RX5 48 9 yX9_cut cX9_cut 4 none 2 := ⟨gw_mem 695 (by decide +kernel) rfl, cd_X9_cut, gw_mem 115 (by decide +kernel) rfl, gw_mem 696 (by decide +kernel) rfl, gw_mem 697 (by decide +kernel) rfl, ⟨_, rfl, rfl⟩, by decide, by decide, by decide +kernel⟩
theorem mv_X5_55 : MV RX5 55 5 yX5_readLine cX5_readLine 2 (some .boolean) 0 := ⟨gw_mem 743 (by decide +kernel) rfl, cd_X5_readLine, gw_mem 114 (by decide +kernel) rfl, gw_mem 745 (by decide +kernel) rfl, gw_mem 7 (by decide +kernel) rfl, ⟨_, rfl, rfl⟩, by decide, by decide, by decide +kernel⟩
theorem fl_X5_63 : FL RX5 63 2 1 := ⟨(RX2, TX2, 16), rfl, by decide, rfl, gw_mem 183 (by decide +kernel) rfl, iu_X2⟩
theorem fp_X5_63 : FP RX5 63 2 1 .int := ⟨(RX2, TX2, 16), rfl, by decide, rfl, gw_mem 183 (by decide +kernel) rfl, iu_X2, ⟨tyX2, tyX2_ok⟩, nmX2, rfl, by decide +kernel⟩
theorem fp_X5_28 : FP RX5 28 5 3 (.object "DeadMonday$House") := ⟨(RX5, TX5, 8), rfl, by decide, rfl, gw_mem 366 (by decide +kernel) rfl, iu_X5, ⟨tyX5, tyX5_ok⟩, nmX5, rfl, by decide +kernel⟩
theorem fl_X6_24 : FL RX6 24 6 3 := ⟨(RX6, TX6, 5), rfl, by decide, rfl, gw_mem 617 (by decide +kernel) rfl, iu_X6⟩
theorem ms_X6_50 : MS RX6 50 yJ7_fill_53178 cJ7_fill_53178 4 none 2 := ⟨gw_mem 1192 (by decide +kernel) rfl, cd_J7_fill_53178, gw_mem 121 (by decide +kernel) rfl, gw_mem 395 (by decide +kernel) rfl, by decide, by decide, by decide +kernel⟩
theorem fl_X6_27 : FL RX6 27 6 4 := ⟨(RX6, TX6, 5), rfl, by decide, rfl, gw_mem 618 (by decide +kernel) rfl, iu_X6⟩
theorem mv_X6_30 : MV RX6 30 2 yX2_told cX2_told 2 (some .int) 1 := ⟨gw_mem 1186 (by decide +kernel) rfl, cd_X2_told, gw_mem 112 (by decide +kernel) rfl, gw_mem 796 (by decide +kernel) rfl, gw_mem 797 (by decide +kernel) rfl, ⟨_, rfl, rfl⟩, by decide, by decide, by decide +kernel⟩
theorem fl_X6_56 : FL RX6 56 7 0 := ⟨(RX7, TX7, 7), rfl, by decide, rfl, gw_mem 399 (by decide +kernel) rfl, iu_X7⟩
theorem mv_X6_61 : MV RX6 61 2 yX2_has cX2_has 3 (some .boolean) 2 := ⟨gw_mem 1193 (by decide +kernel) rfl, cd_X2_has, gw_mem 112 (by decide +kernel) rfl, gw_mem 878 (by decide +kernel) rfl, gw_mem 879 (by decide +kernel) rfl, ⟨_, rfl, rfl⟩, by decide, by decide, by decide +kernel⟩
theorem fl_X6_65 : FL RX6 65 2 10 := ⟨(RX2, TX2, 16), rfl, by decide, rfl, gw_mem 212 (by decide +kernel) rfl, iu_X2⟩
theorem mv_X6_68 : MV RX6 68 0 yX0_likes cX0_likes 9 (some .int) 3 := ⟨gw_mem 1194 (by decide +kernel) rfl, cd_X0_likes, gw_mem 122 (by decide +kernel) rfl, gw_mem 937 (by decide +kernel) rfl, gw_mem 938 (by decide +kernel) rfl, ⟨_, rfl, rfl⟩, by decide, by decide, by decide +kernel⟩
theorem mv_X6_74 : MV RX6 74 6 yX6_share cX6_share 4 (some .int) 3 := ⟨gw_mem 1199 (by decide +kernel) rfl, cd_X6_share, gw_mem 126 (by decide +kernel) rfl, gw_mem 1201 (by decide +kernel) rfl, gw_mem 41 (by decide +kernel) rfl, ⟨_, rfl, rfl⟩, by decide, by decide, by decide +kernel⟩
theorem fl_X6_19 : FL RX6 19 6 2 := ⟨(RX6, TX6, 5), rfl, by decide, rfl, gw_mem 616 (by decide +kernel) rfl, iu_X6⟩
theorem mm_X6_36 : MM RX6 36 Lib.Math.min.name Lib.Math.min.code 2 (some .int) := ⟨gw_mem 1187 (by decide +kernel) rfl, gw_mem 700 (by decide +kernel) rfl, gw_mem 128 (by decide +kernel) rfl, gw_mem 701 (by decide +kernel) rfl⟩
theorem fp_X6_19 : FP RX6 19 6 2 .int := ⟨(RX6, TX6, 5), rfl, by decide, rfl, gw_mem 616 (by decide +kernel) rfl, iu_X6, ⟨tyX6, tyX6_ok⟩, nmX6, rfl, by decide +kernel⟩
theorem mv_X6_42 : MV RX6 42 6 yX6_weigh cX6_weigh 7 none 3 := ⟨gw_mem 1188 (by decide +kernel) rfl, cd_X6_weigh, gw_mem 126 (by decide +kernel) rfl, gw_mem 1190 (by decide +kernel) rfl, gw_mem 39 (by decide +kernel) rfl, ⟨_, rfl, rfl⟩, by decide, by decide, by decide +kernel⟩
theorem fp_X6_9 : FP RX6 9 6 0 .int := ⟨(RX6, TX6, 5), rfl, by decide, rfl, gw_mem 612 (by decide +kernel) rfl, iu_X6, ⟨tyX6, tyX6_ok⟩, nmX6, rfl, by decide +kernel⟩
theorem mv_X6_46 : MV RX6 46 6 yX6_isBest cX6_isBest 6 (some .boolean) 3 := ⟨gw_mem 1195 (by decide +kernel) rfl, cd_X6_isBest, gw_mem 126 (by decide +kernel) rfl, gw_mem 1197 (by decide +kernel) rfl, gw_mem 40 (by decide +kernel) rfl, ⟨_, rfl, rfl⟩, by decide, by decide, by decide +kernel⟩
theorem fl_X6_9 : FL RX6 9 6 0 := ⟨(RX6, TX6, 5), rfl, by decide, rfl, gw_mem 612 (by decide +kernel) rfl, iu_X6⟩
theorem fl_X6_15 : FL RX6 15 6 1 := ⟨(RX6, TX6, 5), rfl, by decide, rfl, gw_mem 614 (by decide +kernel) rfl, iu_X6⟩
theorem fl_X7_9 : FL RX7 9 7 0 := ⟨(RX7, TX7, 7), rfl, by decide, rfl, gw_mem 397 (by decide +kernel) rfl, iu_X7⟩
theorem ms_X7_34 : MS RX7 34 yJ7_fill_53178 cJ7_fill_53178 4 none 2 := ⟨gw_mem 394 (by decide +kernel) rfl, cd_J7_fill_53178, gw_mem 121 (by decide +kernel) rfl, gw_mem 395 (by decide +kernel) rfl, by decide, by decide, by decide +kernel⟩
theorem mv_X7_40 : MV RX7 40 2 yX2_told cX2_told 2 (some .int) 1 := ⟨gw_mem 851 (by decide +kernel) rfl, cd_X2_told, gw_mem 112 (by decide +kernel) rfl, gw_mem 796 (by decide +kernel) rfl, gw_mem 797 (by decide +kernel) rfl, ⟨_, rfl, rfl⟩, by decide, by decide, by decide +kernel⟩
theorem fl_X7_46 : FL RX7 46 2 5 := ⟨(RX2, TX2, 16), rfl, by decide, rfl, gw_mem 193 (by decide +kernel) rfl, iu_X2⟩
theorem fl_X7_15 : FL RX7 15 7 1 := ⟨(RX7, TX7, 7), rfl, by decide, rfl, gw_mem 404 (by decide +kernel) rfl, iu_X7⟩
theorem fl_X7_18 : FL RX7 18 7 2 := ⟨(RX7, TX7, 7), rfl, by decide, rfl, gw_mem 407 (by decide +kernel) rfl, iu_X7⟩
theorem fl_X7_21 : FL RX7 21 7 3 := ⟨(RX7, TX7, 7), rfl, by decide, rfl, gw_mem 410 (by decide +kernel) rfl, iu_X7⟩
theorem fl_X7_24 : FL RX7 24 7 4 := ⟨(RX7, TX7, 7), rfl, by decide, rfl, gw_mem 414 (by decide +kernel) rfl, iu_X7⟩
theorem fp_X7_27 : FP RX7 27 7 5 .int := ⟨(RX7, TX7, 7), rfl, by decide, rfl, gw_mem 417 (by decide +kernel) rfl, iu_X7, ⟨tyX7, tyX7_ok⟩, nmX7, rfl, by decide +kernel⟩
theorem fp_X7_31 : FP RX7 31 7 6 .int := ⟨(RX7, TX7, 7), rfl, by decide, rfl, gw_mem 420 (by decide +kernel) rfl, iu_X7, ⟨tyX7, tyX7_ok⟩, nmX7, rfl, by decide +kernel⟩
theorem mc_X7_49 : Cond.methodLink RX7 49 arraycopyName ∈ gw := gw_mem 1049 (by decide +kernel) rfl
theorem fl_X7_31 : FL RX7 31 7 6 := ⟨(RX7, TX7, 7), rfl, by decide, rfl, gw_mem 420 (by decide +kernel) rfl, iu_X7⟩
theorem fp_X8_9 : FP RX8 9 8 0 .int := ⟨(RX8, TX8, 4), rfl, by decide, rfl, gw_mem 551 (by decide +kernel) rfl, iu_X8, ⟨tyX8, tyX8_ok⟩, nmX8, rfl, by decide +kernel⟩
theorem fl_X8_15 : FL RX8 15 8 1 := ⟨(RX8, TX8, 4), rfl, by decide, rfl, gw_mem 553 (by decide +kernel) rfl, iu_X8⟩
theorem fl_X8_9 : FL RX8 9 8 0 := ⟨(RX8, TX8, 4), rfl, by decide, rfl, gw_mem 551 (by decide +kernel) rfl, iu_X8⟩
theorem mc_X8_28 : Cond.methodLink RX8 28 arraycopyName ∈ gw := gw_mem 1019 (by decide +kernel) rfl
theorem fl_X8_19 : FL RX8 19 8 2 := ⟨(RX8, TX8, 4), rfl, by decide, rfl, gw_mem 554 (by decide +kernel) rfl, iu_X8⟩
theorem fl_X8_22 : FL RX8 22 8 3 := ⟨(RX8, TX8, 4), rfl, by decide, rfl, gw_mem 555 (by decide +kernel) rfl, iu_X8⟩
theorem mv_X8_25 : MV RX8 25 8 yX8_dropFirst cX8_dropFirst 1 none 0 := ⟨gw_mem 1015 (by decide +kernel) rfl, cd_X8_dropFirst, gw_mem 124 (by decide +kernel) rfl, gw_mem 1017 (by decide +kernel) rfl, gw_mem 29 (by decide +kernel) rfl, ⟨_, rfl, rfl⟩, by decide, by decide, by decide +kernel⟩
theorem fl_X8_34 : FL RX8 34 7 0 := ⟨(RX7, TX7, 7), rfl, by decide, rfl, gw_mem 400 (by decide +kernel) rfl, iu_X7⟩
theorem fl_X8_43 : FL RX8 43 7 3 := ⟨(RX7, TX7, 7), rfl, by decide, rfl, gw_mem 411 (by decide +kernel) rfl, iu_X7⟩
theorem mv_X8_39 : MV RX8 39 7 yX7_setRoped cX7_setRoped 3 none 2 := ⟨gw_mem 1040 (by decide +kernel) rfl, cd_X7_setRoped, gw_mem 120 (by decide +kernel) rfl, gw_mem 1025 (by decide +kernel) rfl, gw_mem 1026 (by decide +kernel) rfl, ⟨_, rfl, rfl⟩, by decide, by decide, by decide +kernel⟩
theorem fl_X10_15 : FL RX10 15 10 1 := ⟨(RX10, TX10, 13), rfl, by decide, rfl, gw_mem 631 (by decide +kernel) rfl, iu_X10⟩
theorem fl_X10_11 : FL RX10 11 10 0 := ⟨(RX10, TX10, 13), rfl, by decide, rfl, gw_mem 630 (by decide +kernel) rfl, iu_X10⟩
theorem fp_X10_15 : FP RX10 15 10 1 .int := ⟨(RX10, TX10, 13), rfl, by decide, rfl, gw_mem 631 (by decide +kernel) rfl, iu_X10, ⟨tyX10, tyX10_ok⟩, nmX10, rfl, by decide +kernel⟩
theorem mv_X10_85 : MV RX10 85 10 yX10_putFour cX10_putFour 3 none 1 := ⟨gw_mem 674 (by decide +kernel) rfl, cd_X10_putFour, gw_mem 111 (by decide +kernel) rfl, gw_mem 676 (by decide +kernel) rfl, gw_mem 0 (by decide +kernel) rfl, ⟨_, rfl, rfl⟩, by decide, by decide, by decide +kernel⟩
theorem fl_X10_29 : FL RX10 29 10 3 := ⟨(RX10, TX10, 13), rfl, by decide, rfl, gw_mem 633 (by decide +kernel) rfl, iu_X10⟩
theorem mv_X10_89 : MV RX10 89 5 yX5_read cX5_read 4 (some .boolean) 2 := ⟨gw_mem 682 (by decide +kernel) rfl, cd_X5_read, gw_mem 114 (by decide +kernel) rfl, gw_mem 683 (by decide +kernel) rfl, gw_mem 684 (by decide +kernel) rfl, ⟨_, rfl, rfl⟩, by decide, by decide, by decide +kernel⟩
theorem fl_X10_22 : FL RX10 22 10 2 := ⟨(RX10, TX10, 13), rfl, by decide, rfl, gw_mem 632 (by decide +kernel) rfl, iu_X10⟩
theorem mv_X10_93 : MV RX10 93 5 yX5_trade cX5_trade 3 (some (.object "DeadMonday$House")) 1 := ⟨gw_mem 843 (by decide +kernel) rfl, cd_X5_trade, gw_mem 114 (by decide +kernel) rfl, gw_mem 844 (by decide +kernel) rfl, gw_mem 845 (by decide +kernel) rfl, ⟨_, rfl, rfl⟩, by decide, by decide, by decide +kernel⟩
theorem fp_X10_22 : FP RX10 22 10 2 (.object "DeadMonday$House") := ⟨(RX10, TX10, 13), rfl, by decide, rfl, gw_mem 632 (by decide +kernel) rfl, iu_X10, ⟨tyX10, tyX10_ok⟩, nmX10, rfl, by decide +kernel⟩
theorem fl_X10_36 : FL RX10 36 10 4 := ⟨(RX10, TX10, 13), rfl, by decide, rfl, gw_mem 634 (by decide +kernel) rfl, iu_X10⟩
theorem mv_X10_97 : MV RX10 97 7 yX7_enter cX7_enter 3 none 1 := ⟨gw_mem 847 (by decide +kernel) rfl, cd_X7_enter, gw_mem 120 (by decide +kernel) rfl, gw_mem 848 (by decide +kernel) rfl, gw_mem 849 (by decide +kernel) rfl, ⟨_, rfl, rfl⟩, by decide, by decide, by decide +kernel⟩
theorem fl_X10_60 : FL RX10 60 10 9 := ⟨(RX10, TX10, 13), rfl, by decide, rfl, gw_mem 639 (by decide +kernel) rfl, iu_X10⟩
theorem mv_X10_101 : MV RX10 101 4 yX4_clear cX4_clear 1 none 0 := ⟨gw_mem 852 (by decide +kernel) rfl, cd_X4_clear, gw_mem 123 (by decide +kernel) rfl, gw_mem 853 (by decide +kernel) rfl, gw_mem 854 (by decide +kernel) rfl, ⟨_, rfl, rfl⟩, by decide, by decide, by decide +kernel⟩
theorem fl_X10_67 : FL RX10 67 10 10 := ⟨(RX10, TX10, 13), rfl, by decide, rfl, gw_mem 640 (by decide +kernel) rfl, iu_X10⟩
theorem mv_X10_104 : MV RX10 104 8 yX8_clear cX8_clear 1 none 0 := ⟨gw_mem 856 (by decide +kernel) rfl, cd_X8_clear, gw_mem 124 (by decide +kernel) rfl, gw_mem 857 (by decide +kernel) rfl, gw_mem 858 (by decide +kernel) rfl, ⟨_, rfl, rfl⟩, by decide, by decide, by decide +kernel⟩
theorem fp_X10_43 : FP RX10 43 10 6 .boolean := ⟨(RX10, TX10, 13), rfl, by decide, rfl, gw_mem 636 (by decide +kernel) rfl, iu_X10, ⟨tyX10, tyX10_ok⟩, nmX10, rfl, by decide +kernel⟩
theorem fl_X10_53 : FL RX10 53 10 8 := ⟨(RX10, TX10, 13), rfl, by decide, rfl, gw_mem 638 (by decide +kernel) rfl, iu_X10⟩
theorem mv_X10_105 : MV RX10 105 0 yX0_forget cX0_forget 1 none 0 := ⟨gw_mem 860 (by decide +kernel) rfl, cd_X0_forget, gw_mem 122 (by decide +kernel) rfl, gw_mem 861 (by decide +kernel) rfl, gw_mem 862 (by decide +kernel) rfl, ⟨_, rfl, rfl⟩, by decide, by decide, by decide +kernel⟩
theorem fl_X10_108 : FL RX10 108 2 1 := ⟨(RX2, TX2, 16), rfl, by decide, rfl, gw_mem 184 (by decide +kernel) rfl, iu_X2⟩
theorem fl_X10_114 : FL RX10 114 5 1 := ⟨(RX5, TX5, 8), rfl, by decide, rfl, gw_mem 364 (by decide +kernel) rfl, iu_X5⟩
theorem fl_X10_111 : FL RX10 111 5 0 := ⟨(RX5, TX5, 8), rfl, by decide, rfl, gw_mem 362 (by decide +kernel) rfl, iu_X5⟩
theorem mv_X10_117 : MV RX10 117 2 yX2_find cX2_find 4 (some .int) 2 := ⟨gw_mem 872 (by decide +kernel) rfl, cd_X2_find, gw_mem 112 (by decide +kernel) rfl, gw_mem 810 (by decide +kernel) rfl, gw_mem 811 (by decide +kernel) rfl, ⟨_, rfl, rfl⟩, by decide, by decide, by decide +kernel⟩
theorem mv_X10_121 : MV RX10 121 2 yX2_has cX2_has 3 (some .boolean) 2 := ⟨gw_mem 877 (by decide +kernel) rfl, cd_X2_has, gw_mem 112 (by decide +kernel) rfl, gw_mem 878 (by decide +kernel) rfl, gw_mem 879 (by decide +kernel) rfl, ⟨_, rfl, rfl⟩, by decide, by decide, by decide +kernel⟩
theorem fl_X10_152 : FL RX10 152 7 3 := ⟨(RX7, TX7, 7), rfl, by decide, rfl, gw_mem 412 (by decide +kernel) rfl, iu_X7⟩
theorem mv_X10_155 : MV RX10 155 7 yX7_isRoped cX7_isRoped 2 (some .boolean) 1 := ⟨gw_mem 881 (by decide +kernel) rfl, cd_X7_isRoped, gw_mem 120 (by decide +kernel) rfl, gw_mem 882 (by decide +kernel) rfl, gw_mem 883 (by decide +kernel) rfl, ⟨_, rfl, rfl⟩, by decide, by decide, by decide +kernel⟩
theorem mv_X10_159 : MV RX10 159 7 yX7_thingsIn cX7_thingsIn 4 (some .int) 1 := ⟨gw_mem 885 (by decide +kernel) rfl, cd_X7_thingsIn, gw_mem 120 (by decide +kernel) rfl, gw_mem 886 (by decide +kernel) rfl, gw_mem 887 (by decide +kernel) rfl, ⟨_, rfl, rfl⟩, by decide, by decide, by decide +kernel⟩
theorem ms_X10_163 : MS RX10 163 yJ6_bitCount_0f7a4 cJ6_bitCount_0f7a4 1 (some .int) 1 := ⟨gw_mem 889 (by decide +kernel) rfl, cd_J6_bitCount_0f7a4, gw_mem 135 (by decide +kernel) rfl, gw_mem 890 (by decide +kernel) rfl, by decide, by decide, by decide +kernel⟩
theorem fl_X10_168 : FL RX10 168 2 8 := ⟨(RX2, TX2, 16), rfl, by decide, rfl, gw_mem 204 (by decide +kernel) rfl, iu_X2⟩
theorem fl_X10_171 : FL RX10 171 2 9 := ⟨(RX2, TX2, 16), rfl, by decide, rfl, gw_mem 208 (by decide +kernel) rfl, iu_X2⟩
theorem fl_X10_174 : FL RX10 174 2 10 := ⟨(RX2, TX2, 16), rfl, by decide, rfl, gw_mem 213 (by decide +kernel) rfl, iu_X2⟩
theorem fl_X10_177 : FL RX10 177 2 11 := ⟨(RX2, TX2, 16), rfl, by decide, rfl, gw_mem 217 (by decide +kernel) rfl, iu_X2⟩
theorem fl_X10_180 : FL RX10 180 7 4 := ⟨(RX7, TX7, 7), rfl, by decide, rfl, gw_mem 416 (by decide +kernel) rfl, iu_X7⟩
theorem mv_X10_183 : MV RX10 183 2 yX2_leads cX2_leads 3 (some .boolean) 2 := ⟨gw_mem 903 (by decide +kernel) rfl, cd_X2_leads, gw_mem 112 (by decide +kernel) rfl, gw_mem 823 (by decide +kernel) rfl, gw_mem 824 (by decide +kernel) rfl, ⟨_, rfl, rfl⟩, by decide, by decide, by decide +kernel⟩
theorem mv_X10_186 : MV RX10 186 2 yX2_glassOf cX2_glassOf 3 (some .int) 1 := ⟨gw_mem 908 (by decide +kernel) rfl, cd_X2_glassOf, gw_mem 112 (by decide +kernel) rfl, gw_mem 909 (by decide +kernel) rfl, gw_mem 910 (by decide +kernel) rfl, ⟨_, rfl, rfl⟩, by decide, by decide, by decide +kernel⟩
theorem mv_X10_189 : MV RX10 189 0 yX0_begin cX0_begin 3 none 2 := ⟨gw_mem 916 (by decide +kernel) rfl, cd_X0_begin, gw_mem 122 (by decide +kernel) rfl, gw_mem 917 (by decide +kernel) rfl, gw_mem 918 (by decide +kernel) rfl, ⟨_, rfl, rfl⟩, by decide, by decide, by decide +kernel⟩
theorem fl_X10_132 : FL RX10 132 7 0 := ⟨(RX7, TX7, 7), rfl, by decide, rfl, gw_mem 401 (by decide +kernel) rfl, iu_X7⟩
theorem mv_X10_193 : MV RX10 193 0 yX0_likes cX0_likes 9 (some .int) 3 := ⟨gw_mem 936 (by decide +kernel) rfl, cd_X0_likes, gw_mem 122 (by decide +kernel) rfl, gw_mem 937 (by decide +kernel) rfl, gw_mem 938 (by decide +kernel) rfl, ⟨_, rfl, rfl⟩, by decide, by decide, by decide +kernel⟩
theorem ct_X10_197 : Cond.constantLong RX10 197 (-9223372036854775808) ∈ gw := gw_mem 988 (by decide +kernel) rfl
theorem mv_X10_199 : MV RX10 199 0 yX0_value cX0_value 5 (some .long) 4 := ⟨gw_mem 989 (by decide +kernel) rfl, cd_X0_value, gw_mem 122 (by decide +kernel) rfl, gw_mem 990 (by decide +kernel) rfl, gw_mem 991 (by decide +kernel) rfl, ⟨_, rfl, rfl⟩, by decide, by decide, by decide +kernel⟩
theorem mv_X10_203 : MV RX10 203 2 yX2_told cX2_told 2 (some .int) 1 := ⟨gw_mem 998 (by decide +kernel) rfl, cd_X2_told, gw_mem 112 (by decide +kernel) rfl, gw_mem 796 (by decide +kernel) rfl, gw_mem 797 (by decide +kernel) rfl, ⟨_, rfl, rfl⟩, by decide, by decide, by decide +kernel⟩
theorem fl_X10_206 : FL RX10 206 2 2 := ⟨(RX2, TX2, 16), rfl, by decide, rfl, gw_mem 186 (by decide +kernel) rfl, iu_X2⟩
theorem fl_X10_209 : FL RX10 209 7 6 := ⟨(RX7, TX7, 7), rfl, by decide, rfl, gw_mem 422 (by decide +kernel) rfl, iu_X7⟩
theorem fl_X10_141 : FL RX10 141 7 1 := ⟨(RX7, TX7, 7), rfl, by decide, rfl, gw_mem 405 (by decide +kernel) rfl, iu_X7⟩
theorem ms_X10_212 : MS RX10 212 yX10_sum cX10_sum 6 (some .int) 1 := ⟨gw_mem 999 (by decide +kernel) rfl, cd_X10_sum, gw_mem 111 (by decide +kernel) rfl, gw_mem 1000 (by decide +kernel) rfl, by decide, by decide, by decide +kernel⟩
theorem fl_X10_144 : FL RX10 144 7 2 := ⟨(RX7, TX7, 7), rfl, by decide, rfl, gw_mem 408 (by decide +kernel) rfl, iu_X7⟩
theorem fl_X10_216 : FL RX10 216 4 0 := ⟨(RX4, TX4, 8), rfl, by decide, rfl, gw_mem 518 (by decide +kernel) rfl, iu_X4⟩
theorem mv_X10_219 : MV RX10 219 4 yX4_knownBy cX4_knownBy 1 (some .int) 0 := ⟨gw_mem 1002 (by decide +kernel) rfl, cd_X4_knownBy, gw_mem 123 (by decide +kernel) rfl, gw_mem 1003 (by decide +kernel) rfl, gw_mem 1004 (by decide +kernel) rfl, ⟨_, rfl, rfl⟩, by decide, by decide, by decide +kernel⟩
theorem fl_X10_223 : FL RX10 223 8 0 := ⟨(RX8, TX8, 4), rfl, by decide, rfl, gw_mem 552 (by decide +kernel) rfl, iu_X8⟩
theorem mv_X10_224 : MV RX10 224 8 yX8_add cX8_add 4 none 3 := ⟨gw_mem 1011 (by decide +kernel) rfl, cd_X8_add, gw_mem 124 (by decide +kernel) rfl, gw_mem 1012 (by decide +kernel) rfl, gw_mem 1013 (by decide +kernel) rfl, ⟨_, rfl, rfl⟩, by decide, by decide, by decide +kernel⟩
theorem mv_X10_228 : MV RX10 228 7 yX7_setRoped cX7_setRoped 3 none 2 := ⟨gw_mem 1024 (by decide +kernel) rfl, cd_X7_setRoped, gw_mem 120 (by decide +kernel) rfl, gw_mem 1025 (by decide +kernel) rfl, gw_mem 1026 (by decide +kernel) rfl, ⟨_, rfl, rfl⟩, by decide, by decide, by decide +kernel⟩
theorem mv_X10_232 : MV RX10 232 8 yX8_takeBack cX8_takeBack 4 none 1 := ⟨gw_mem 1036 (by decide +kernel) rfl, cd_X8_takeBack, gw_mem 124 (by decide +kernel) rfl, gw_mem 1037 (by decide +kernel) rfl, gw_mem 1038 (by decide +kernel) rfl, ⟨_, rfl, rfl⟩, by decide, by decide, by decide +kernel⟩
theorem fl_X10_40 : FL RX10 40 10 5 := ⟨(RX10, TX10, 13), rfl, by decide, rfl, gw_mem 635 (by decide +kernel) rfl, iu_X10⟩
theorem mv_X10_236 : MV RX10 236 7 yX7_copy cX7_copy 2 none 1 := ⟨gw_mem 1045 (by decide +kernel) rfl, cd_X7_copy, gw_mem 120 (by decide +kernel) rfl, gw_mem 1046 (by decide +kernel) rfl, gw_mem 1047 (by decide +kernel) rfl, ⟨_, rfl, rfl⟩, by decide, by decide, by decide +kernel⟩
theorem fl_X10_43 : FL RX10 43 10 6 := ⟨(RX10, TX10, 13), rfl, by decide, rfl, gw_mem 636 (by decide +kernel) rfl, iu_X10⟩
theorem mv_X10_239 : MV RX10 239 0 yX0_pass cX0_pass 5 none 1 := ⟨gw_mem 1058 (by decide +kernel) rfl, cd_X0_pass, gw_mem 122 (by decide +kernel) rfl, gw_mem 1059 (by decide +kernel) rfl, gw_mem 1060 (by decide +kernel) rfl, ⟨_, rfl, rfl⟩, by decide, by decide, by decide +kernel⟩
theorem fl_X10_47 : FL RX10 47 10 7 := ⟨(RX10, TX10, 13), rfl, by decide, rfl, gw_mem 637 (by decide +kernel) rfl, iu_X10⟩
theorem mv_X10_242 : MV RX10 242 10 yX10_tryFromNow cX10_tryFromNow 1 none 0 := ⟨gw_mem 1099 (by decide +kernel) rfl, cd_X10_tryFromNow, gw_mem 111 (by decide +kernel) rfl, gw_mem 1101 (by decide +kernel) rfl, gw_mem 34 (by decide +kernel) rfl, ⟨_, rfl, rfl⟩, by decide, by decide, by decide +kernel⟩
theorem fl_X10_248 : FL RX10 248 0 1 := ⟨(RX0, TX0, 17), rfl, by decide, rfl, gw_mem 455 (by decide +kernel) rfl, iu_X0⟩
theorem fl_X10_245 : FL RX10 245 0 0 := ⟨(RX0, TX0, 17), rfl, by decide, rfl, gw_mem 453 (by decide +kernel) rfl, iu_X0⟩
theorem mv_X10_251 : MV RX10 251 0 yX0_comers cX0_comers 3 (some .int) 0 := ⟨gw_mem 1107 (by decide +kernel) rfl, cd_X0_comers, gw_mem 122 (by decide +kernel) rfl, gw_mem 1063 (by decide +kernel) rfl, gw_mem 1064 (by decide +kernel) rfl, ⟨_, rfl, rfl⟩, by decide, by decide, by decide +kernel⟩
theorem mv_X10_254 : MV RX10 254 0 yX0_seat cX0_seat 6 (some .int) 1 := ⟨gw_mem 1112 (by decide +kernel) rfl, cd_X0_seat, gw_mem 122 (by decide +kernel) rfl, gw_mem 1076 (by decide +kernel) rfl, gw_mem 1077 (by decide +kernel) rfl, ⟨_, rfl, rfl⟩, by decide, by decide, by decide +kernel⟩
theorem mv_X10_257 : MV RX10 257 0 yX0_look cX0_look 2 none 0 := ⟨gw_mem 1125 (by decide +kernel) rfl, cd_X0_look, gw_mem 122 (by decide +kernel) rfl, gw_mem 921 (by decide +kernel) rfl, gw_mem 922 (by decide +kernel) rfl, ⟨_, rfl, rfl⟩, by decide, by decide, by decide +kernel⟩
theorem mm_X10_260 : MM RX10 260 Lib.Math.max.name Lib.Math.max.code 2 (some .int) := ⟨gw_mem 1126 (by decide +kernel) rfl, gw_mem 703 (by decide +kernel) rfl, gw_mem 128 (by decide +kernel) rfl, gw_mem 704 (by decide +kernel) rfl⟩
theorem fp_X10_209 : FP RX10 209 7 6 .int := ⟨(RX7, TX7, 7), rfl, by decide, rfl, gw_mem 422 (by decide +kernel) rfl, iu_X7, ⟨tyX7, tyX7_ok⟩, nmX7, rfl, by decide +kernel⟩
theorem mv_X10_265 : MV RX10 265 0 yX0_drawFrom cX0_drawFrom 3 none 1 := ⟨gw_mem 1131 (by decide +kernel) rfl, cd_X0_drawFrom, gw_mem 122 (by decide +kernel) rfl, gw_mem 1132 (by decide +kernel) rfl, gw_mem 1133 (by decide +kernel) rfl, ⟨_, rfl, rfl⟩, by decide, by decide, by decide +kernel⟩
theorem fl_X10_269 : FL RX10 269 0 6 := ⟨(RX0, TX0, 17), rfl, by decide, rfl, gw_mem 465 (by decide +kernel) rfl, iu_X0⟩
theorem fp_X10_273 : FP RX10 273 7 5 .int := ⟨(RX7, TX7, 7), rfl, by decide, rfl, gw_mem 419 (by decide +kernel) rfl, iu_X7, ⟨tyX7, tyX7_ok⟩, nmX7, rfl, by decide +kernel⟩
theorem fp_X10_276 : FP RX10 276 0 2 .int := ⟨(RX0, TX0, 17), rfl, by decide, rfl, gw_mem 457 (by decide +kernel) rfl, iu_X0, ⟨tyX0, tyX0_ok⟩, nmX0, rfl, by decide +kernel⟩
theorem fp_X10_279 : FP RX10 279 0 3 .boolean := ⟨(RX0, TX0, 17), rfl, by decide, rfl, gw_mem 459 (by decide +kernel) rfl, iu_X0, ⟨tyX0, tyX0_ok⟩, nmX0, rfl, by decide +kernel⟩
theorem fl_X10_74 : FL RX10 74 10 11 := ⟨(RX10, TX10, 13), rfl, by decide, rfl, gw_mem 641 (by decide +kernel) rfl, iu_X10⟩
theorem mv_X10_282 : MV RX10 282 1 yX1_work cX1_work 5 none 3 := ⟨gw_mem 1143 (by decide +kernel) rfl, cd_X1_work, gw_mem 125 (by decide +kernel) rfl, gw_mem 1144 (by decide +kernel) rfl, gw_mem 1145 (by decide +kernel) rfl, ⟨_, rfl, rfl⟩, by decide, by decide, by decide +kernel⟩
theorem fl_X10_289 : FL RX10 289 1 0 := ⟨(RX1, TX1, 10), rfl, by decide, rfl, gw_mem 573 (by decide +kernel) rfl, iu_X1⟩
theorem fl_X10_286 : FL RX10 286 1 1 := ⟨(RX1, TX1, 10), rfl, by decide, rfl, gw_mem 575 (by decide +kernel) rfl, iu_X1⟩
theorem mv_X10_292 : MV RX10 292 7 yX7_hangAll cX7_hangAll 4 none 2 := ⟨gw_mem 1174 (by decide +kernel) rfl, cd_X7_hangAll, gw_mem 120 (by decide +kernel) rfl, gw_mem 1175 (by decide +kernel) rfl, gw_mem 1176 (by decide +kernel) rfl, ⟨_, rfl, rfl⟩, by decide, by decide, by decide +kernel⟩
theorem fl_X10_81 : FL RX10 81 10 12 := ⟨(RX10, TX10, 13), rfl, by decide, rfl, gw_mem 642 (by decide +kernel) rfl, iu_X10⟩
theorem mv_X10_296 : MV RX10 296 6 yX6_work cX6_work 6 none 3 := ⟨gw_mem 1182 (by decide +kernel) rfl, cd_X6_work, gw_mem 126 (by decide +kernel) rfl, gw_mem 1183 (by decide +kernel) rfl, gw_mem 1184 (by decide +kernel) rfl, ⟨_, rfl, rfl⟩, by decide, by decide, by decide +kernel⟩
theorem fl_X10_297 : FL RX10 297 6 0 := ⟨(RX6, TX6, 5), rfl, by decide, rfl, gw_mem 613 (by decide +kernel) rfl, iu_X6⟩
theorem fl_X10_298 : FL RX10 298 6 1 := ⟨(RX6, TX6, 5), rfl, by decide, rfl, gw_mem 615 (by decide +kernel) rfl, iu_X6⟩
theorem mv_X10_301 : MV RX10 301 2 yX2_nextTo cX2_nextTo 4 (some .int) 1 := ⟨gw_mem 1211 (by decide +kernel) rfl, cd_X2_nextTo, gw_mem 112 (by decide +kernel) rfl, gw_mem 1212 (by decide +kernel) rfl, gw_mem 1213 (by decide +kernel) rfl, ⟨_, rfl, rfl⟩, by decide, by decide, by decide +kernel⟩
theorem ct_X10_304 : Cond.constantLong RX10 304 (-1) ∈ gw := gw_mem 1219 (by decide +kernel) rfl
theorem ct_X10_306 : Cond.constantLong RX10 306 (100) ∈ gw := gw_mem 1220 (by decide +kernel) rfl
theorem ms_X10_308 : MS RX10 308 yX10_ways cX10_ways 5 (some .long) 2 := ⟨gw_mem 1221 (by decide +kernel) rfl, cd_X10_ways, gw_mem 111 (by decide +kernel) rfl, gw_mem 1222 (by decide +kernel) rfl, by decide, by decide, by decide +kernel⟩
theorem ms_X10_312 : MS RX10 312 yX10_greatestShared cX10_greatestShared 11 (some .long) 2 := ⟨gw_mem 1224 (by decide +kernel) rfl, cd_X10_greatestShared, gw_mem 111 (by decide +kernel) rfl, gw_mem 1225 (by decide +kernel) rfl, by decide, by decide, by decide +kernel⟩
theorem mv_X10_316 : MV RX10 316 4 yX4_add cX4_add 5 (some .int) 4 := ⟨gw_mem 1239 (by decide +kernel) rfl, cd_X4_add, gw_mem 123 (by decide +kernel) rfl, gw_mem 1240 (by decide +kernel) rfl, gw_mem 1241 (by decide +kernel) rfl, ⟨_, rfl, rfl⟩, by decide, by decide, by decide +kernel⟩
theorem mv_X10_319 : MV RX10 319 4 yX4_addStrike cX4_addStrike 3 (some .int) 1 := ⟨gw_mem 1247 (by decide +kernel) rfl, cd_X4_addStrike, gw_mem 123 (by decide +kernel) rfl, gw_mem 1248 (by decide +kernel) rfl, gw_mem 1249 (by decide +kernel) rfl, ⟨_, rfl, rfl⟩, by decide, by decide, by decide +kernel⟩
theorem fp_X10_322 : FP RX10 322 4 1 .int := ⟨(RX4, TX4, 8), rfl, by decide, rfl, gw_mem 520 (by decide +kernel) rfl, iu_X4, ⟨tyX4, tyX4_ok⟩, nmX4, rfl, by decide +kernel⟩
theorem mv_X10_325 : MV RX10 325 4 yX4_strike cX4_strike 3 none 0 := ⟨gw_mem 1260 (by decide +kernel) rfl, cd_X4_strike, gw_mem 123 (by decide +kernel) rfl, gw_mem 1261 (by decide +kernel) rfl, gw_mem 1262 (by decide +kernel) rfl, ⟨_, rfl, rfl⟩, by decide, by decide, by decide +kernel⟩
theorem fp_X10_328 : FP RX10 328 0 4 .int := ⟨(RX0, TX0, 17), rfl, by decide, rfl, gw_mem 461 (by decide +kernel) rfl, iu_X0, ⟨tyX0, tyX0_ok⟩, nmX0, rfl, by decide +kernel⟩
theorem fp_X10_331 : FP RX10 331 0 5 .int := ⟨(RX0, TX0, 17), rfl, by decide, rfl, gw_mem 463 (by decide +kernel) rfl, iu_X0, ⟨tyX0, tyX0_ok⟩, nmX0, rfl, by decide +kernel⟩
theorem mv_X10_334 : MV RX10 334 4 yX4_holdOn cX4_holdOn 5 (some .boolean) 2 := ⟨gw_mem 1265 (by decide +kernel) rfl, cd_X4_holdOn, gw_mem 123 (by decide +kernel) rfl, gw_mem 1266 (by decide +kernel) rfl, gw_mem 1267 (by decide +kernel) rfl, ⟨_, rfl, rfl⟩, by decide, by decide, by decide +kernel⟩
theorem fl_X11_148 : FL RX11 148 11 0 := ⟨(RX11, TX11, 65), rfl, by decide, rfl, gw_mem 1380 (by decide +kernel) rfl, iu_X11⟩
theorem fp_X11_148 : FP RX11 148 11 0 .int := ⟨(RX11, TX11, 65), rfl, by decide, rfl, gw_mem 1380 (by decide +kernel) rfl, iu_X11, ⟨tyX11, tyX11_ok⟩, nmX11, rfl, by decide +kernel⟩
theorem fl_X11_151 : FL RX11 151 11 2 := ⟨(RX11, TX11, 65), rfl, by decide, rfl, gw_mem 1382 (by decide +kernel) rfl, iu_X11⟩
theorem fl_X11_7 : FL RX11 7 11 1 := ⟨(RX11, TX11, 65), rfl, by decide, rfl, gw_mem 1381 (by decide +kernel) rfl, iu_X11⟩
theorem fp_X11_151 : FP RX11 151 11 2 .int := ⟨(RX11, TX11, 65), rfl, by decide, rfl, gw_mem 1382 (by decide +kernel) rfl, iu_X11, ⟨tyX11, tyX11_ok⟩, nmX11, rfl, by decide +kernel⟩
theorem fl_X11_154 : FL RX11 154 11 24 := ⟨(RX11, TX11, 65), rfl, by decide, rfl, gw_mem 1404 (by decide +kernel) rfl, iu_X11⟩
theorem fl_X11_157 : FL RX11 157 11 23 := ⟨(RX11, TX11, 65), rfl, by decide, rfl, gw_mem 1403 (by decide +kernel) rfl, iu_X11⟩
theorem fl_X11_164 : FL RX11 164 11 25 := ⟨(RX11, TX11, 65), rfl, by decide, rfl, gw_mem 1405 (by decide +kernel) rfl, iu_X11⟩
theorem fp_X11_177 : FP RX11 177 11 27 .int := ⟨(RX11, TX11, 65), rfl, by decide, rfl, gw_mem 1407 (by decide +kernel) rfl, iu_X11, ⟨tyX11, tyX11_ok⟩, nmX11, rfl, by decide +kernel⟩
theorem fl_X11_177 : FL RX11 177 11 27 := ⟨(RX11, TX11, 65), rfl, by decide, rfl, gw_mem 1407 (by decide +kernel) rfl, iu_X11⟩
theorem fp_X11_154 : FP RX11 154 11 24 .int := ⟨(RX11, TX11, 65), rfl, by decide, rfl, gw_mem 1404 (by decide +kernel) rfl, iu_X11, ⟨tyX11, tyX11_ok⟩, nmX11, rfl, by decide +kernel⟩
theorem fp_X11_167 : FP RX11 167 11 26 .int := ⟨(RX11, TX11, 65), rfl, by decide, rfl, gw_mem 1406 (by decide +kernel) rfl, iu_X11, ⟨tyX11, tyX11_ok⟩, nmX11, rfl, by decide +kernel⟩
theorem mv_X11_160 : MV RX11 160 11 yX11_here cX11_here 1 (some .int) 0 := ⟨gw_mem 1596 (by decide +kernel) rfl, cd_X11_here, gw_mem 127 (by decide +kernel) rfl, gw_mem 1598 (by decide +kernel) rfl, gw_mem 48 (by decide +kernel) rfl, ⟨_, rfl, rfl⟩, by decide, by decide, by decide +kernel⟩
theorem fp_X11_164 : FP RX11 164 11 25 .int := ⟨(RX11, TX11, 65), rfl, by decide, rfl, gw_mem 1405 (by decide +kernel) rfl, iu_X11, ⟨tyX11, tyX11_ok⟩, nmX11, rfl, by decide +kernel⟩
theorem ms_X11_170 : MS RX11 170 yX11_isSmall cX11_isSmall 1 (some .boolean) 1 := ⟨gw_mem 1600 (by decide +kernel) rfl, cd_X11_isSmall, gw_mem 127 (by decide +kernel) rfl, gw_mem 1601 (by decide +kernel) rfl, by decide, by decide, by decide +kernel⟩
theorem ms_X11_183 : MS RX11 183 yX11_isDigit cX11_isDigit 1 (some .boolean) 1 := ⟨gw_mem 1614 (by decide +kernel) rfl, cd_X11_isDigit, gw_mem 127 (by decide +kernel) rfl, gw_mem 1615 (by decide +kernel) rfl, by decide, by decide, by decide +kernel⟩
theorem mv_X11_187 : MV RX11 187 11 yX11_sign cX11_sign 2 none 1 := ⟨gw_mem 1618 (by decide +kernel) rfl, cd_X11_sign, gw_mem 127 (by decide +kernel) rfl, gw_mem 1620 (by decide +kernel) rfl, gw_mem 51 (by decide +kernel) rfl, ⟨_, rfl, rfl⟩, by decide, by decide, by decide +kernel⟩
theorem ct_X11_186 : Cond.constant RX11 186 (99999) ∈ gw := gw_mem 1617 (by decide +kernel) rfl
theorem mv_X11_174 : MV RX11 174 11 yX11_word cX11_word 4 (some .int) 0 := ⟨gw_mem 1603 (by decide +kernel) rfl, cd_X11_word, gw_mem 127 (by decide +kernel) rfl, gw_mem 1605 (by decide +kernel) rfl, gw_mem 49 (by decide +kernel) rfl, ⟨_, rfl, rfl⟩, by decide, by decide, by decide +kernel⟩
theorem fl_X11_167 : FL RX11 167 11 26 := ⟨(RX11, TX11, 65), rfl, by decide, rfl, gw_mem 1406 (by decide +kernel) rfl, iu_X11⟩
theorem mv_X11_180 : MV RX11 180 11 yX11_name cX11_name 2 none 0 := ⟨gw_mem 1610 (by decide +kernel) rfl, cd_X11_name, gw_mem 127 (by decide +kernel) rfl, gw_mem 1612 (by decide +kernel) rfl, gw_mem 50 (by decide +kernel) rfl, ⟨_, rfl, rfl⟩, by decide, by decide, by decide +kernel⟩
theorem fl_X11_202 : FL RX11 202 11 28 := ⟨(RX11, TX11, 65), rfl, by decide, rfl, gw_mem 1408 (by decide +kernel) rfl, iu_X11⟩
theorem fp_X11_202 : FP RX11 202 11 28 .int := ⟨(RX11, TX11, 65), rfl, by decide, rfl, gw_mem 1408 (by decide +kernel) rfl, iu_X11, ⟨tyX11, tyX11_ok⟩, nmX11, rfl, by decide +kernel⟩
theorem fp_X11_205 : FP RX11 205 11 29 .int := ⟨(RX11, TX11, 65), rfl, by decide, rfl, gw_mem 1409 (by decide +kernel) rfl, iu_X11, ⟨tyX11, tyX11_ok⟩, nmX11, rfl, by decide +kernel⟩
theorem mv_X11_208 : MV RX11 208 11 yX11_token cX11_token 2 none 0 := ⟨gw_mem 1592 (by decide +kernel) rfl, cd_X11_token, gw_mem 127 (by decide +kernel) rfl, gw_mem 1594 (by decide +kernel) rfl, gw_mem 47 (by decide +kernel) rfl, ⟨_, rfl, rfl⟩, by decide, by decide, by decide +kernel⟩
theorem mv_X11_211 : MV RX11 211 11 yX11_wrong cX11_wrong 2 none 1 := ⟨gw_mem 1626 (by decide +kernel) rfl, cd_X11_wrong, gw_mem 127 (by decide +kernel) rfl, gw_mem 1628 (by decide +kernel) rfl, gw_mem 53 (by decide +kernel) rfl, ⟨_, rfl, rfl⟩, by decide, by decide, by decide +kernel⟩
theorem ms_X11_214 : MS RX11 214 yX11_found cX11_found 5 (some .int) 4 := ⟨gw_mem 1642 (by decide +kernel) rfl, cd_X11_found, gw_mem 127 (by decide +kernel) rfl, gw_mem 1643 (by decide +kernel) rfl, by decide, by decide, by decide +kernel⟩
theorem fl_X11_13 : FL RX11 13 11 3 := ⟨(RX11, TX11, 65), rfl, by decide, rfl, gw_mem 1383 (by decide +kernel) rfl, iu_X11⟩
theorem fl_X11_16 : FL RX11 16 11 4 := ⟨(RX11, TX11, 65), rfl, by decide, rfl, gw_mem 1384 (by decide +kernel) rfl, iu_X11⟩
theorem mv_X11_218 : MV RX11 218 11 yX11_fresher cX11_fresher 2 (some .int) 1 := ⟨gw_mem 1634 (by decide +kernel) rfl, cd_X11_fresher, gw_mem 127 (by decide +kernel) rfl, gw_mem 1636 (by decide +kernel) rfl, gw_mem 55 (by decide +kernel) rfl, ⟨_, rfl, rfl⟩, by decide, by decide, by decide +kernel⟩
theorem mv_X11_222 : MV RX11 222 11 yX11_roomAtHand cX11_roomAtHand 1 (some .int) 0 := ⟨gw_mem 1653 (by decide +kernel) rfl, cd_X11_roomAtHand, gw_mem 127 (by decide +kernel) rfl, gw_mem 1655 (by decide +kernel) rfl, gw_mem 59 (by decide +kernel) rfl, ⟨_, rfl, rfl⟩, by decide, by decide, by decide +kernel⟩
theorem mv_X11_225 : MV RX11 225 11 yX11_goOn cX11_goOn 1 none 0 := ⟨gw_mem 1657 (by decide +kernel) rfl, cd_X11_goOn, gw_mem 127 (by decide +kernel) rfl, gw_mem 1659 (by decide +kernel) rfl, gw_mem 60 (by decide +kernel) rfl, ⟨_, rfl, rfl⟩, by decide, by decide, by decide +kernel⟩
theorem mv_X11_245 : MV RX11 245 11 yX11_roomAhead cX11_roomAhead 2 (some .int) 0 := ⟨gw_mem 1649 (by decide +kernel) rfl, cd_X11_roomAhead, gw_mem 127 (by decide +kernel) rfl, gw_mem 1651 (by decide +kernel) rfl, gw_mem 58 (by decide +kernel) rfl, ⟨_, rfl, rfl⟩, by decide, by decide, by decide +kernel⟩
theorem fl_X11_19 : FL RX11 19 11 5 := ⟨(RX11, TX11, 65), rfl, by decide, rfl, gw_mem 1385 (by decide +kernel) rfl, iu_X11⟩
theorem fl_X11_22 : FL RX11 22 11 6 := ⟨(RX11, TX11, 65), rfl, by decide, rfl, gw_mem 1386 (by decide +kernel) rfl, iu_X11⟩
theorem mv_X11_238 : MV RX11 238 11 yX11_reads cX11_reads 3 none 2 := ⟨gw_mem 1588 (by decide +kernel) rfl, cd_X11_reads, gw_mem 127 (by decide +kernel) rfl, gw_mem 1590 (by decide +kernel) rfl, gw_mem 46 (by decide +kernel) rfl, ⟨_, rfl, rfl⟩, by decide, by decide, by decide +kernel⟩
theorem fl_X11_264 : FL RX11 264 11 33 := ⟨(RX11, TX11, 65), rfl, by decide, rfl, gw_mem 1413 (by decide +kernel) rfl, iu_X11⟩
theorem fp_X11_264 : FP RX11 264 11 33 .int := ⟨(RX11, TX11, 65), rfl, by decide, rfl, gw_mem 1413 (by decide +kernel) rfl, iu_X11, ⟨tyX11, tyX11_ok⟩, nmX11, rfl, by decide +kernel⟩
theorem fl_X11_61 : FL RX11 61 11 19 := ⟨(RX11, TX11, 65), rfl, by decide, rfl, gw_mem 1399 (by decide +kernel) rfl, iu_X11⟩
theorem fl_X11_64 : FL RX11 64 11 20 := ⟨(RX11, TX11, 65), rfl, by decide, rfl, gw_mem 1400 (by decide +kernel) rfl, iu_X11⟩
theorem mv_X11_255 : MV RX11 255 11 yX11_isSign cX11_isSign 2 (some .boolean) 1 := ⟨gw_mem 1705 (by decide +kernel) rfl, cd_X11_isSign, gw_mem 127 (by decide +kernel) rfl, gw_mem 1707 (by decide +kernel) rfl, gw_mem 72 (by decide +kernel) rfl, ⟨_, rfl, rfl⟩, by decide, by decide, by decide +kernel⟩
theorem fl_X11_291 : FL RX11 291 11 32 := ⟨(RX11, TX11, 65), rfl, by decide, rfl, gw_mem 1412 (by decide +kernel) rfl, iu_X11⟩
theorem mv_X11_273 : MV RX11 273 11 yX11_knot cX11_knot 1 none 0 := ⟨gw_mem 1685 (by decide +kernel) rfl, cd_X11_knot, gw_mem 127 (by decide +kernel) rfl, gw_mem 1687 (by decide +kernel) rfl, gw_mem 67 (by decide +kernel) rfl, ⟨_, rfl, rfl⟩, by decide, by decide, by decide +kernel⟩
theorem mv_X11_276 : MV RX11 276 11 yX11_puts cX11_puts 3 none 2 := ⟨gw_mem 1689 (by decide +kernel) rfl, cd_X11_puts, gw_mem 127 (by decide +kernel) rfl, gw_mem 1691 (by decide +kernel) rfl, gw_mem 68 (by decide +kernel) rfl, ⟨_, rfl, rfl⟩, by decide, by decide, by decide +kernel⟩
theorem fp_X11_291 : FP RX11 291 11 32 .int := ⟨(RX11, TX11, 65), rfl, by decide, rfl, gw_mem 1412 (by decide +kernel) rfl, iu_X11, ⟨tyX11, tyX11_ok⟩, nmX11, rfl, by decide +kernel⟩
theorem mv_X11_261 : MV RX11 261 11 yX11_expression cX11_expression 1 none 0 := ⟨gw_mem 1669 (by decide +kernel) rfl, cd_X11_expression, gw_mem 127 (by decide +kernel) rfl, gw_mem 1671 (by decide +kernel) rfl, gw_mem 63 (by decide +kernel) rfl, ⟨_, rfl, rfl⟩, by decide, by decide, by decide +kernel⟩
theorem mv_X11_288 : MV RX11 288 11 yX11_primary cX11_primary 2 none 0 := ⟨gw_mem 1701 (by decide +kernel) rfl, cd_X11_primary, gw_mem 127 (by decide +kernel) rfl, gw_mem 1703 (by decide +kernel) rfl, gw_mem 71 (by decide +kernel) rfl, ⟨_, rfl, rfl⟩, by decide, by decide, by decide +kernel⟩
theorem mv_X11_285 : MV RX11 285 11 yX11_product cX11_product 2 none 0 := ⟨gw_mem 1697 (by decide +kernel) rfl, cd_X11_product, gw_mem 127 (by decide +kernel) rfl, gw_mem 1699 (by decide +kernel) rfl, gw_mem 70 (by decide +kernel) rfl, ⟨_, rfl, rfl⟩, by decide, by decide, by decide +kernel⟩
theorem mv_X11_270 : MV RX11 270 11 yX11_isWord cX11_isWord 2 (some .boolean) 1 := ⟨gw_mem 1681 (by decide +kernel) rfl, cd_X11_isWord, gw_mem 127 (by decide +kernel) rfl, gw_mem 1683 (by decide +kernel) rfl, gw_mem 66 (by decide +kernel) rfl, ⟨_, rfl, rfl⟩, by decide, by decide, by decide +kernel⟩
theorem mv_X11_282 : MV RX11 282 11 yX11_sum cX11_sum 2 none 0 := ⟨gw_mem 1693 (by decide +kernel) rfl, cd_X11_sum, gw_mem 127 (by decide +kernel) rfl, gw_mem 1695 (by decide +kernel) rfl, gw_mem 69 (by decide +kernel) rfl, ⟨_, rfl, rfl⟩, by decide, by decide, by decide +kernel⟩
theorem mv_X11_279 : MV RX11 279 11 yX11_negation cX11_negation 2 none 0 := ⟨gw_mem 1677 (by decide +kernel) rfl, cd_X11_negation, gw_mem 127 (by decide +kernel) rfl, gw_mem 1679 (by decide +kernel) rfl, gw_mem 65 (by decide +kernel) rfl, ⟨_, rfl, rfl⟩, by decide, by decide, by decide +kernel⟩
theorem mv_X11_267 : MV RX11 267 11 yX11_conjunction cX11_conjunction 1 none 0 := ⟨gw_mem 1673 (by decide +kernel) rfl, cd_X11_conjunction, gw_mem 127 (by decide +kernel) rfl, gw_mem 1675 (by decide +kernel) rfl, gw_mem 64 (by decide +kernel) rfl, ⟨_, rfl, rfl⟩, by decide, by decide, by decide +kernel⟩
theorem fl_X11_231 : FL RX11 231 11 21 := ⟨(RX11, TX11, 65), rfl, by decide, rfl, gw_mem 1401 (by decide +kernel) rfl, iu_X11⟩
theorem fp_X11_231 : FP RX11 231 11 21 .int := ⟨(RX11, TX11, 65), rfl, by decide, rfl, gw_mem 1401 (by decide +kernel) rfl, iu_X11, ⟨tyX11, tyX11_ok⟩, nmX11, rfl, by decide +kernel⟩
theorem fl_X11_55 : FL RX11 55 11 17 := ⟨(RX11, TX11, 65), rfl, by decide, rfl, gw_mem 1397 (by decide +kernel) rfl, iu_X11⟩
theorem fl_X11_58 : FL RX11 58 11 18 := ⟨(RX11, TX11, 65), rfl, by decide, rfl, gw_mem 1398 (by decide +kernel) rfl, iu_X11⟩
theorem mv_X11_228 : MV RX11 228 11 yX11_isFull cX11_isFull 2 (some .boolean) 1 := ⟨gw_mem 1630 (by decide +kernel) rfl, cd_X11_isFull, gw_mem 127 (by decide +kernel) rfl, gw_mem 1632 (by decide +kernel) rfl, gw_mem 54 (by decide +kernel) rfl, ⟨_, rfl, rfl⟩, by decide, by decide, by decide +kernel⟩
theorem mv_X11_234 : MV RX11 234 11 yX11_fresh cX11_fresh 5 (some .int) 3 := ⟨gw_mem 1638 (by decide +kernel) rfl, cd_X11_fresh, gw_mem 127 (by decide +kernel) rfl, gw_mem 1640 (by decide +kernel) rfl, gw_mem 56 (by decide +kernel) rfl, ⟨_, rfl, rfl⟩, by decide, by decide, by decide +kernel⟩
theorem mv_X11_242 : MV RX11 242 11 yX11_doorLine cX11_doorLine 5 none 1 := ⟨gw_mem 1645 (by decide +kernel) rfl, cd_X11_doorLine, gw_mem 127 (by decide +kernel) rfl, gw_mem 1647 (by decide +kernel) rfl, gw_mem 57 (by decide +kernel) rfl, ⟨_, rfl, rfl⟩, by decide, by decide, by decide +kernel⟩
theorem fl_X11_25 : FL RX11 25 11 7 := ⟨(RX11, TX11, 65), rfl, by decide, rfl, gw_mem 1387 (by decide +kernel) rfl, iu_X11⟩
theorem fl_X11_28 : FL RX11 28 11 8 := ⟨(RX11, TX11, 65), rfl, by decide, rfl, gw_mem 1388 (by decide +kernel) rfl, iu_X11⟩
theorem fl_X11_31 : FL RX11 31 11 9 := ⟨(RX11, TX11, 65), rfl, by decide, rfl, gw_mem 1389 (by decide +kernel) rfl, iu_X11⟩
theorem mv_X11_248 : MV RX11 248 11 yX11_numeral cX11_numeral 4 (some .int) 2 := ⟨gw_mem 1661 (by decide +kernel) rfl, cd_X11_numeral, gw_mem 127 (by decide +kernel) rfl, gw_mem 1663 (by decide +kernel) rfl, gw_mem 61 (by decide +kernel) rfl, ⟨_, rfl, rfl⟩, by decide, by decide, by decide +kernel⟩
theorem fl_X11_34 : FL RX11 34 11 10 := ⟨(RX11, TX11, 65), rfl, by decide, rfl, gw_mem 1390 (by decide +kernel) rfl, iu_X11⟩
theorem fl_X11_37 : FL RX11 37 11 11 := ⟨(RX11, TX11, 65), rfl, by decide, rfl, gw_mem 1391 (by decide +kernel) rfl, iu_X11⟩
theorem fl_X11_40 : FL RX11 40 11 12 := ⟨(RX11, TX11, 65), rfl, by decide, rfl, gw_mem 1392 (by decide +kernel) rfl, iu_X11⟩
theorem fl_X11_43 : FL RX11 43 11 13 := ⟨(RX11, TX11, 65), rfl, by decide, rfl, gw_mem 1393 (by decide +kernel) rfl, iu_X11⟩
theorem fl_X11_46 : FL RX11 46 11 14 := ⟨(RX11, TX11, 65), rfl, by decide, rfl, gw_mem 1394 (by decide +kernel) rfl, iu_X11⟩
theorem fl_X11_49 : FL RX11 49 11 15 := ⟨(RX11, TX11, 65), rfl, by decide, rfl, gw_mem 1395 (by decide +kernel) rfl, iu_X11⟩
theorem fl_X11_52 : FL RX11 52 11 16 := ⟨(RX11, TX11, 65), rfl, by decide, rfl, gw_mem 1396 (by decide +kernel) rfl, iu_X11⟩
theorem mv_X11_252 : MV RX11 252 11 yX11_lawLine cX11_lawLine 2 none 0 := ⟨gw_mem 1665 (by decide +kernel) rfl, cd_X11_lawLine, gw_mem 127 (by decide +kernel) rfl, gw_mem 1667 (by decide +kernel) rfl, gw_mem 62 (by decide +kernel) rfl, ⟨_, rfl, rfl⟩, by decide, by decide, by decide +kernel⟩
theorem fl_X11_258 : FL RX11 258 11 22 := ⟨(RX11, TX11, 65), rfl, by decide, rfl, gw_mem 1402 (by decide +kernel) rfl, iu_X11⟩
theorem fp_X11_258 : FP RX11 258 11 22 .int := ⟨(RX11, TX11, 65), rfl, by decide, rfl, gw_mem 1402 (by decide +kernel) rfl, iu_X11, ⟨tyX11, tyX11_ok⟩, nmX11, rfl, by decide +kernel⟩
theorem fl_X11_78 : FL RX11 78 11 37 := ⟨(RX11, TX11, 65), rfl, by decide, rfl, gw_mem 1417 (by decide +kernel) rfl, iu_X11⟩
theorem fl_X11_81 : FL RX11 81 11 38 := ⟨(RX11, TX11, 65), rfl, by decide, rfl, gw_mem 1418 (by decide +kernel) rfl, iu_X11⟩
theorem fl_X11_84 : FL RX11 84 11 39 := ⟨(RX11, TX11, 65), rfl, by decide, rfl, gw_mem 1419 (by decide +kernel) rfl, iu_X11⟩
theorem fl_X11_87 : FL RX11 87 11 40 := ⟨(RX11, TX11, 65), rfl, by decide, rfl, gw_mem 1420 (by decide +kernel) rfl, iu_X11⟩
theorem fl_X11_90 : FL RX11 90 11 41 := ⟨(RX11, TX11, 65), rfl, by decide, rfl, gw_mem 1421 (by decide +kernel) rfl, iu_X11⟩
theorem fl_X11_93 : FL RX11 93 11 42 := ⟨(RX11, TX11, 65), rfl, by decide, rfl, gw_mem 1422 (by decide +kernel) rfl, iu_X11⟩
theorem fl_X11_96 : FL RX11 96 11 43 := ⟨(RX11, TX11, 65), rfl, by decide, rfl, gw_mem 1423 (by decide +kernel) rfl, iu_X11⟩
theorem fl_X11_99 : FL RX11 99 11 44 := ⟨(RX11, TX11, 65), rfl, by decide, rfl, gw_mem 1424 (by decide +kernel) rfl, iu_X11⟩
theorem mv_X11_334 : MV RX11 334 11 yX11_starts cX11_starts 3 none 1 := ⟨gw_mem 1376 (by decide +kernel) rfl, cd_X11_starts, gw_mem 127 (by decide +kernel) rfl, gw_mem 1378 (by decide +kernel) rfl, gw_mem 45 (by decide +kernel) rfl, ⟨_, rfl, rfl⟩, by decide, by decide, by decide +kernel⟩
theorem fp_X11_157 : FP RX11 157 11 23 .int := ⟨(RX11, TX11, 65), rfl, by decide, rfl, gw_mem 1403 (by decide +kernel) rfl, iu_X11, ⟨tyX11, tyX11_ok⟩, nmX11, rfl, by decide +kernel⟩
theorem mv_X11_294 : MV RX11 294 11 yX11_line cX11_line 4 none 0 := ⟨gw_mem 1622 (by decide +kernel) rfl, cd_X11_line, gw_mem 127 (by decide +kernel) rfl, gw_mem 1624 (by decide +kernel) rfl, gw_mem 52 (by decide +kernel) rfl, ⟨_, rfl, rfl⟩, by decide, by decide, by decide +kernel⟩
theorem fp_X11_297 : FP RX11 297 11 30 .int := ⟨(RX11, TX11, 65), rfl, by decide, rfl, gw_mem 1410 (by decide +kernel) rfl, iu_X11, ⟨tyX11, tyX11_ok⟩, nmX11, rfl, by decide +kernel⟩
theorem fl_X11_205 : FL RX11 205 11 29 := ⟨(RX11, TX11, 65), rfl, by decide, rfl, gw_mem 1409 (by decide +kernel) rfl, iu_X11⟩
theorem fp_X11_67 : FP RX11 67 11 31 .int := ⟨(RX11, TX11, 65), rfl, by decide, rfl, gw_mem 1411 (by decide +kernel) rfl, iu_X11, ⟨tyX11, tyX11_ok⟩, nmX11, rfl, by decide +kernel⟩
theorem ms_X11_300 : MS RX11 300 yX11_half cX11_half 3 none 1 := ⟨gw_mem 1709 (by decide +kernel) rfl, cd_X11_half, gw_mem 127 (by decide +kernel) rfl, gw_mem 1710 (by decide +kernel) rfl, by decide, by decide, by decide +kernel⟩
theorem fp_X11_304 : FP RX11 304 11 57 .int := ⟨(RX11, TX11, 65), rfl, by decide, rfl, gw_mem 1437 (by decide +kernel) rfl, iu_X11, ⟨tyX11, tyX11_ok⟩, nmX11, rfl, by decide +kernel⟩
theorem fp_X11_123 : FP RX11 123 11 58 .int := ⟨(RX11, TX11, 65), rfl, by decide, rfl, gw_mem 1438 (by decide +kernel) rfl, iu_X11, ⟨tyX11, tyX11_ok⟩, nmX11, rfl, by decide +kernel⟩
theorem fp_X11_307 : FP RX11 307 11 45 .boolean := ⟨(RX11, TX11, 65), rfl, by decide, rfl, gw_mem 1425 (by decide +kernel) rfl, iu_X11, ⟨tyX11, tyX11_ok⟩, nmX11, rfl, by decide +kernel⟩
theorem fp_X11_311 : FP RX11 311 11 46 .int := ⟨(RX11, TX11, 65), rfl, by decide, rfl, gw_mem 1426 (by decide +kernel) rfl, iu_X11, ⟨tyX11, tyX11_ok⟩, nmX11, rfl, by decide +kernel⟩
theorem mv_X11_145 : MV RX11 145 11 yX11_begins cX11_begins 1 none 0 := ⟨gw_mem 1372 (by decide +kernel) rfl, cd_X11_begins, gw_mem 127 (by decide +kernel) rfl, gw_mem 1374 (by decide +kernel) rfl, gw_mem 44 (by decide +kernel) rfl, ⟨_, rfl, rfl⟩, by decide, by decide, by decide +kernel⟩
theorem fl_X11_67 : FL RX11 67 11 31 := ⟨(RX11, TX11, 65), rfl, by decide, rfl, gw_mem 1411 (by decide +kernel) rfl, iu_X11⟩
theorem fl_X11_297 : FL RX11 297 11 30 := ⟨(RX11, TX11, 65), rfl, by decide, rfl, gw_mem 1410 (by decide +kernel) rfl, iu_X11⟩
theorem fl_X11_75 : FL RX11 75 11 35 := ⟨(RX11, TX11, 65), rfl, by decide, rfl, gw_mem 1415 (by decide +kernel) rfl, iu_X11⟩
theorem fl_X11_314 : FL RX11 314 11 36 := ⟨(RX11, TX11, 65), rfl, by decide, rfl, gw_mem 1416 (by decide +kernel) rfl, iu_X11⟩
theorem fp_X11_314 : FP RX11 314 11 36 .int := ⟨(RX11, TX11, 65), rfl, by decide, rfl, gw_mem 1416 (by decide +kernel) rfl, iu_X11, ⟨tyX11, tyX11_ok⟩, nmX11, rfl, by decide +kernel⟩
theorem mm_X11_321 : MM RX11 321 Lib.MathLoose.abs_long.x Lib.MathLoose.abs_long.code 2 (some .long) := ⟨gw_mem 1807 (by decide +kernel) rfl, gw_mem 1808 (by decide +kernel) rfl, gw_mem 128 (by decide +kernel) rfl, gw_mem 1809 (by decide +kernel) rfl⟩
theorem ct_X11_327 : Cond.constantLong RX11 327 (1000000000000) ∈ gw := gw_mem 1810 (by decide +kernel) rfl
theorem ct_X11_329 : Cond.constantLong RX11 329 (-1000000000000) ∈ gw := gw_mem 1811 (by decide +kernel) rfl
theorem ms_X11_317 : MS RX11 317 yX11_is cX11_is 1 (some .long) 1 := ⟨gw_mem 1804 (by decide +kernel) rfl, cd_X11_is, gw_mem 127 (by decide +kernel) rfl, gw_mem 1805 (by decide +kernel) rfl, by decide, by decide, by decide +kernel⟩
theorem fl_X11_71 : FL RX11 71 11 34 := ⟨(RX11, TX11, 65), rfl, by decide, rfl, gw_mem 1414 (by decide +kernel) rfl, iu_X11⟩
theorem mv_X11_331 : MV RX11 331 11 yX11_works cX11_works 8 (some .boolean) 1 := ⟨gw_mem 1800 (by decide +kernel) rfl, cd_X11_works, gw_mem 127 (by decide +kernel) rfl, gw_mem 1802 (by decide +kernel) rfl, gw_mem 86 (by decide +kernel) rfl, ⟨_, rfl, rfl⟩, by decide, by decide, by decide +kernel⟩
theorem fl_X11_108 : FL RX11 108 11 50 := ⟨(RX11, TX11, 65), rfl, by decide, rfl, gw_mem 1430 (by decide +kernel) rfl, iu_X11⟩
theorem fl_X11_337 : FL RX11 337 11 51 := ⟨(RX11, TX11, 65), rfl, by decide, rfl, gw_mem 1431 (by decide +kernel) rfl, iu_X11⟩
theorem fl_X11_105 : FL RX11 105 11 49 := ⟨(RX11, TX11, 65), rfl, by decide, rfl, gw_mem 1429 (by decide +kernel) rfl, iu_X11⟩
theorem mv_X11_340 : MV RX11 340 11 yX11_glassAt cX11_glassAt 2 (some .int) 1 := ⟨gw_mem 1763 (by decide +kernel) rfl, cd_X11_glassAt, gw_mem 127 (by decide +kernel) rfl, gw_mem 1765 (by decide +kernel) rfl, gw_mem 78 (by decide +kernel) rfl, ⟨_, rfl, rfl⟩, by decide, by decide, by decide +kernel⟩
theorem fl_X11_343 : FL RX11 343 11 47 := ⟨(RX11, TX11, 65), rfl, by decide, rfl, gw_mem 1427 (by decide +kernel) rfl, iu_X11⟩
theorem fl_X11_102 : FL RX11 102 11 48 := ⟨(RX11, TX11, 65), rfl, by decide, rfl, gw_mem 1428 (by decide +kernel) rfl, iu_X11⟩
theorem mv_X11_346 : MV RX11 346 11 yX11_tasteIn cX11_tasteIn 2 (some .int) 1 := ⟨gw_mem 1779 (by decide +kernel) rfl, cd_X11_tasteIn, gw_mem 127 (by decide +kernel) rfl, gw_mem 1781 (by decide +kernel) rfl, gw_mem 81 (by decide +kernel) rfl, ⟨_, rfl, rfl⟩, by decide, by decide, by decide +kernel⟩
theorem mv_X11_349 : MV RX11 349 11 yX11_gaugeIn cX11_gaugeIn 2 (some .int) 1 := ⟨gw_mem 1783 (by decide +kernel) rfl, cd_X11_gaugeIn, gw_mem 127 (by decide +kernel) rfl, gw_mem 1785 (by decide +kernel) rfl, gw_mem 82 (by decide +kernel) rfl, ⟨_, rfl, rfl⟩, by decide, by decide, by decide +kernel⟩
theorem mv_X11_352 : MV RX11 352 11 yX11_hasLaw cX11_hasLaw 2 (some .boolean) 1 := ⟨gw_mem 1792 (by decide +kernel) rfl, cd_X11_hasLaw, gw_mem 127 (by decide +kernel) rfl, gw_mem 1794 (by decide +kernel) rfl, gw_mem 84 (by decide +kernel) rfl, ⟨_, rfl, rfl⟩, by decide, by decide, by decide +kernel⟩
theorem mv_X11_355 : MV RX11 355 11 yX11_goes cX11_goes 3 (some .boolean) 1 := ⟨gw_mem 1796 (by decide +kernel) rfl, cd_X11_goes, gw_mem 127 (by decide +kernel) rfl, gw_mem 1798 (by decide +kernel) rfl, gw_mem 85 (by decide +kernel) rfl, ⟨_, rfl, rfl⟩, by decide, by decide, by decide +kernel⟩
theorem mm_X11_358 : MM RX11 358 Lib.MathLoose.min_long.x Lib.MathLoose.min_long.code 4 (some .long) := ⟨gw_mem 1812 (by decide +kernel) rfl, gw_mem 979 (by decide +kernel) rfl, gw_mem 128 (by decide +kernel) rfl, gw_mem 980 (by decide +kernel) rfl⟩
theorem mm_X11_362 : MM RX11 362 Lib.MathLoose.max_long.x Lib.MathLoose.max_long.code 4 (some .long) := ⟨gw_mem 1813 (by decide +kernel) rfl, gw_mem 982 (by decide +kernel) rfl, gw_mem 128 (by decide +kernel) rfl, gw_mem 983 (by decide +kernel) rfl⟩
theorem mv_X11_365 : MV RX11 365 11 yX11_calls cX11_calls 4 none 3 := ⟨gw_mem 1775 (by decide +kernel) rfl, cd_X11_calls, gw_mem 127 (by decide +kernel) rfl, gw_mem 1777 (by decide +kernel) rfl, gw_mem 80 (by decide +kernel) rfl, ⟨_, rfl, rfl⟩, by decide, by decide, by decide +kernel⟩
theorem mm_X11_369 : MM RX11 369 Lib.Math.abs.name Lib.Math.abs.code 1 (some .int) := ⟨gw_mem 1787 (by decide +kernel) rfl, gw_mem 973 (by decide +kernel) rfl, gw_mem 128 (by decide +kernel) rfl, gw_mem 974 (by decide +kernel) rfl⟩
theorem mv_X11_371 : MV RX11 371 11 yX11_within cX11_within 4 (some .int) 3 := ⟨gw_mem 1788 (by decide +kernel) rfl, cd_X11_within, gw_mem 127 (by decide +kernel) rfl, gw_mem 1790 (by decide +kernel) rfl, gw_mem 83 (by decide +kernel) rfl, ⟨_, rfl, rfl⟩, by decide, by decide, by decide +kernel⟩
theorem mv_X11_375 : MV RX11 375 11 yX11_isHung cX11_isHung 2 (some .boolean) 1 := ⟨gw_mem 1867 (by decide +kernel) rfl, cd_X11_isHung, gw_mem 127 (by decide +kernel) rfl, gw_mem 1869 (by decide +kernel) rfl, gw_mem 95 (by decide +kernel) rfl, ⟨_, rfl, rfl⟩, by decide, by decide, by decide +kernel⟩
theorem mv_X11_378 : MV RX11 378 11 yX11_likingOf cX11_likingOf 5 (some .int) 3 := ⟨gw_mem 1771 (by decide +kernel) rfl, cd_X11_likingOf, gw_mem 127 (by decide +kernel) rfl, gw_mem 1773 (by decide +kernel) rfl, gw_mem 79 (by decide +kernel) rfl, ⟨_, rfl, rfl⟩, by decide, by decide, by decide +kernel⟩
theorem mv_X11_381 : MV RX11 381 11 yX11_isOpen cX11_isOpen 3 (some .boolean) 2 := ⟨gw_mem 1859 (by decide +kernel) rfl, cd_X11_isOpen, gw_mem 127 (by decide +kernel) rfl, gw_mem 1861 (by decide +kernel) rfl, gw_mem 93 (by decide +kernel) rfl, ⟨_, rfl, rfl⟩, by decide, by decide, by decide +kernel⟩
theorem mv_X11_385 : MV RX11 385 11 yX11_likingFor cX11_likingFor 6 (some .int) 3 := ⟨gw_mem 1863 (by decide +kernel) rfl, cd_X11_likingFor, gw_mem 127 (by decide +kernel) rfl, gw_mem 1865 (by decide +kernel) rfl, gw_mem 94 (by decide +kernel) rfl, ⟨_, rfl, rfl⟩, by decide, by decide, by decide +kernel⟩
theorem mv_X11_388 : MV RX11 388 11 yX11_isDoor cX11_isDoor 4 (some .boolean) 2 := ⟨gw_mem 1755 (by decide +kernel) rfl, cd_X11_isDoor, gw_mem 127 (by decide +kernel) rfl, gw_mem 1757 (by decide +kernel) rfl, gw_mem 77 (by decide +kernel) rfl, ⟨_, rfl, rfl⟩, by decide, by decide, by decide +kernel⟩
theorem mv_X11_391 : MV RX11 391 11 yX11_seatOf cX11_seatOf 7 (some .int) 2 := ⟨gw_mem 1855 (by decide +kernel) rfl, cd_X11_seatOf, gw_mem 127 (by decide +kernel) rfl, gw_mem 1857 (by decide +kernel) rfl, gw_mem 92 (by decide +kernel) rfl, ⟨_, rfl, rfl⟩, by decide, by decide, by decide +kernel⟩
theorem mv_X11_394 : MV RX11 394 11 yX11_nextTo cX11_nextTo 3 (some .int) 1 := ⟨gw_mem 1871 (by decide +kernel) rfl, cd_X11_nextTo, gw_mem 127 (by decide +kernel) rfl, gw_mem 1873 (by decide +kernel) rfl, gw_mem 96 (by decide +kernel) rfl, ⟨_, rfl, rfl⟩, by decide, by decide, by decide +kernel⟩
theorem mv_X11_397 : MV RX11 397 11 yX11_doesCome cX11_doesCome 3 (some .boolean) 2 := ⟨gw_mem 1847 (by decide +kernel) rfl, cd_X11_doesCome, gw_mem 127 (by decide +kernel) rfl, gw_mem 1849 (by decide +kernel) rfl, gw_mem 90 (by decide +kernel) rfl, ⟨_, rfl, rfl⟩, by decide, by decide, by decide +kernel⟩
theorem mv_X11_400 : MV RX11 400 11 yX11_visits cX11_visits 8 none 2 := ⟨gw_mem 1851 (by decide +kernel) rfl, cd_X11_visits, gw_mem 127 (by decide +kernel) rfl, gw_mem 1853 (by decide +kernel) rfl, gw_mem 91 (by decide +kernel) rfl, ⟨_, rfl, rfl⟩, by decide, by decide, by decide +kernel⟩
theorem mv_X11_409 : MV RX11 409 11 yX11_passes cX11_passes 3 none 1 := ⟨gw_mem 1843 (by decide +kernel) rfl, cd_X11_passes, gw_mem 127 (by decide +kernel) rfl, gw_mem 1845 (by decide +kernel) rfl, gw_mem 89 (by decide +kernel) rfl, ⟨_, rfl, rfl⟩, by decide, by decide, by decide +kernel⟩
theorem mv_X11_403 : MV RX11 403 11 yX11_copies cX11_copies 4 none 2 := ⟨gw_mem 1827 (by decide +kernel) rfl, cd_X11_copies, gw_mem 127 (by decide +kernel) rfl, gw_mem 1829 (by decide +kernel) rfl, gw_mem 88 (by decide +kernel) rfl, ⟨_, rfl, rfl⟩, by decide, by decide, by decide +kernel⟩
theorem mv_X11_406 : MV RX11 406 11 yX11_goesOn cX11_goesOn 3 none 1 := ⟨gw_mem 1883 (by decide +kernel) rfl, cd_X11_goesOn, gw_mem 127 (by decide +kernel) rfl, gw_mem 1885 (by decide +kernel) rfl, gw_mem 98 (by decide +kernel) rfl, ⟨_, rfl, rfl⟩, by decide, by decide, by decide +kernel⟩
theorem mv_X11_412 : MV RX11 412 11 yX11_sumOf cX11_sumOf 5 (some .int) 2 := ⟨gw_mem 1887 (by decide +kernel) rfl, cd_X11_sumOf, gw_mem 127 (by decide +kernel) rfl, gw_mem 1889 (by decide +kernel) rfl, gw_mem 99 (by decide +kernel) rfl, ⟨_, rfl, rfl⟩, by decide, by decide, by decide +kernel⟩
theorem mv_X11_416 : MV RX11 416 11 yX11_isThing cX11_isThing 2 (some .boolean) 1 := ⟨gw_mem 1724 (by decide +kernel) rfl, cd_X11_isThing, gw_mem 127 (by decide +kernel) rfl, gw_mem 1726 (by decide +kernel) rfl, gw_mem 73 (by decide +kernel) rfl, ⟨_, rfl, rfl⟩, by decide, by decide, by decide +kernel⟩
theorem mv_X11_419 : MV RX11 419 11 yX11_isRoom cX11_isRoom 2 (some .boolean) 1 := ⟨gw_mem 1732 (by decide +kernel) rfl, cd_X11_isRoom, gw_mem 127 (by decide +kernel) rfl, gw_mem 1734 (by decide +kernel) rfl, gw_mem 74 (by decide +kernel) rfl, ⟨_, rfl, rfl⟩, by decide, by decide, by decide +kernel⟩
theorem mv_X11_422 : MV RX11 422 11 yX11_thingsIn cX11_thingsIn 5 (some .int) 2 := ⟨gw_mem 1736 (by decide +kernel) rfl, cd_X11_thingsIn, gw_mem 127 (by decide +kernel) rfl, gw_mem 1738 (by decide +kernel) rfl, gw_mem 75 (by decide +kernel) rfl, ⟨_, rfl, rfl⟩, by decide, by decide, by decide +kernel⟩
theorem ms_X11_425 : MS RX11 425 yX11_bitsOf cX11_bitsOf 3 (some .int) 1 := ⟨gw_mem 1740 (by decide +kernel) rfl, cd_X11_bitsOf, gw_mem 127 (by decide +kernel) rfl, gw_mem 1741 (by decide +kernel) rfl, by decide, by decide, by decide +kernel⟩
theorem mv_X11_428 : MV RX11 428 11 yX11_isDead cX11_isDead 2 (some .boolean) 1 := ⟨gw_mem 1747 (by decide +kernel) rfl, cd_X11_isDead, gw_mem 127 (by decide +kernel) rfl, gw_mem 1749 (by decide +kernel) rfl, gw_mem 76 (by decide +kernel) rfl, ⟨_, rfl, rfl⟩, by decide, by decide, by decide +kernel⟩
theorem ct_X11_433 : Cond.constantLong RX11 433 (-9223372036854775808) ∈ gw := gw_mem 1818 (by decide +kernel) rfl
theorem fl_X11_311 : FL RX11 311 11 46 := ⟨(RX11, TX11, 65), rfl, by decide, rfl, gw_mem 1426 (by decide +kernel) rfl, iu_X11⟩
theorem mv_X11_435 : MV RX11 435 11 yX11_keepNow cX11_keepNow 2 none 0 := ⟨gw_mem 1823 (by decide +kernel) rfl, cd_X11_keepNow, gw_mem 127 (by decide +kernel) rfl, gw_mem 1825 (by decide +kernel) rfl, gw_mem 87 (by decide +kernel) rfl, ⟨_, rfl, rfl⟩, by decide, by decide, by decide +kernel⟩
theorem mv_X11_438 : MV RX11 438 11 yX11_runs cX11_runs 2 none 1 := ⟨gw_mem 1879 (by decide +kernel) rfl, cd_X11_runs, gw_mem 127 (by decide +kernel) rfl, gw_mem 1881 (by decide +kernel) rfl, gw_mem 97 (by decide +kernel) rfl, ⟨_, rfl, rfl⟩, by decide, by decide, by decide +kernel⟩
theorem mv_X11_441 : MV RX11 441 11 yX11_comersOf cX11_comersOf 4 (some .int) 1 := ⟨gw_mem 1895 (by decide +kernel) rfl, cd_X11_comersOf, gw_mem 127 (by decide +kernel) rfl, gw_mem 1897 (by decide +kernel) rfl, gw_mem 100 (by decide +kernel) rfl, ⟨_, rfl, rfl⟩, by decide, by decide, by decide +kernel⟩
theorem mv_X11_444 : MV RX11 444 11 yX11_stirs cX11_stirs 2 (some .int) 1 := ⟨gw_mem 1907 (by decide +kernel) rfl, cd_X11_stirs, gw_mem 127 (by decide +kernel) rfl, gw_mem 1909 (by decide +kernel) rfl, gw_mem 101 (by decide +kernel) rfl, ⟨_, rfl, rfl⟩, by decide, by decide, by decide +kernel⟩
theorem mv_X11_450 : MV RX11 450 11 yX11_likingWhereAllSit cX11_likingWhereAllSit 4 (some .int) 0 := ⟨gw_mem 1924 (by decide +kernel) rfl, cd_X11_likingWhereAllSit, gw_mem 127 (by decide +kernel) rfl, gw_mem 1926 (by decide +kernel) rfl, gw_mem 103 (by decide +kernel) rfl, ⟨_, rfl, rfl⟩, by decide, by decide, by decide +kernel⟩
theorem fl_X11_453 : FL RX11 453 11 53 := ⟨(RX11, TX11, 65), rfl, by decide, rfl, gw_mem 1433 (by decide +kernel) rfl, iu_X11⟩
theorem fp_X11_453 : FP RX11 453 11 53 .int := ⟨(RX11, TX11, 65), rfl, by decide, rfl, gw_mem 1433 (by decide +kernel) rfl, iu_X11, ⟨tyX11, tyX11_ok⟩, nmX11, rfl, by decide +kernel⟩
theorem fl_X11_111 : FL RX11 111 11 52 := ⟨(RX11, TX11, 65), rfl, by decide, rfl, gw_mem 1432 (by decide +kernel) rfl, iu_X11⟩
theorem mv_X11_447 : MV RX11 447 11 yX11_hangs cX11_hangs 5 none 2 := ⟨gw_mem 1920 (by decide +kernel) rfl, cd_X11_hangs, gw_mem 127 (by decide +kernel) rfl, gw_mem 1922 (by decide +kernel) rfl, gw_mem 102 (by decide +kernel) rfl, ⟨_, rfl, rfl⟩, by decide, by decide, by decide +kernel⟩
theorem mm_X11_456 : MM RX11 456 Lib.Math.min.name Lib.Math.min.code 2 (some .int) := ⟨gw_mem 1919 (by decide +kernel) rfl, gw_mem 700 (by decide +kernel) rfl, gw_mem 128 (by decide +kernel) rfl, gw_mem 701 (by decide +kernel) rfl⟩
theorem fl_X11_114 : FL RX11 114 11 54 := ⟨(RX11, TX11, 65), rfl, by decide, rfl, gw_mem 1434 (by decide +kernel) rfl, iu_X11⟩
theorem mv_X11_458 : MV RX11 458 11 yX11_hasOf cX11_hasOf 5 (some .int) 3 := ⟨gw_mem 1944 (by decide +kernel) rfl, cd_X11_hasOf, gw_mem 127 (by decide +kernel) rfl, gw_mem 1946 (by decide +kernel) rfl, gw_mem 106 (by decide +kernel) rfl, ⟨_, rfl, rfl⟩, by decide, by decide, by decide +kernel⟩
theorem mv_X11_461 : MV RX11 461 11 yX11_isRest cX11_isRest 4 (some .boolean) 2 := ⟨gw_mem 1940 (by decide +kernel) rfl, cd_X11_isRest, gw_mem 127 (by decide +kernel) rfl, gw_mem 1942 (by decide +kernel) rfl, gw_mem 105 (by decide +kernel) rfl, ⟨_, rfl, rfl⟩, by decide, by decide, by decide +kernel⟩
theorem mv_X11_464 : MV RX11 464 11 yX11_restOf cX11_restOf 5 (some .int) 1 := ⟨gw_mem 1936 (by decide +kernel) rfl, cd_X11_restOf, gw_mem 127 (by decide +kernel) rfl, gw_mem 1938 (by decide +kernel) rfl, gw_mem 104 (by decide +kernel) rfl, ⟨_, rfl, rfl⟩, by decide, by decide, by decide +kernel⟩
theorem fl_X11_117 : FL RX11 117 11 55 := ⟨(RX11, TX11, 65), rfl, by decide, rfl, gw_mem 1435 (by decide +kernel) rfl, iu_X11⟩
theorem fl_X11_120 : FL RX11 120 11 56 := ⟨(RX11, TX11, 65), rfl, by decide, rfl, gw_mem 1436 (by decide +kernel) rfl, iu_X11⟩
theorem ct_X11_467 : Cond.constantLong RX11 467 (-1) ∈ gw := gw_mem 1960 (by decide +kernel) rfl
theorem ct_X11_469 : Cond.constantLong RX11 469 (100) ∈ gw := gw_mem 1961 (by decide +kernel) rfl
theorem ms_X11_471 : MS RX11 471 yX11_common cX11_common 10 (some .long) 2 := ⟨gw_mem 1962 (by decide +kernel) rfl, cd_X11_common, gw_mem 127 (by decide +kernel) rfl, gw_mem 1963 (by decide +kernel) rfl, by decide, by decide, by decide +kernel⟩
theorem mm_X11_474 : MM RX11 474 Lib.Math.max.name Lib.Math.max.code 2 (some .int) := ⟨gw_mem 1969 (by decide +kernel) rfl, gw_mem 703 (by decide +kernel) rfl, gw_mem 128 (by decide +kernel) rfl, gw_mem 704 (by decide +kernel) rfl⟩
theorem fl_X11_304 : FL RX11 304 11 57 := ⟨(RX11, TX11, 65), rfl, by decide, rfl, gw_mem 1437 (by decide +kernel) rfl, iu_X11⟩
theorem fl_X11_126 : FL RX11 126 11 59 := ⟨(RX11, TX11, 65), rfl, by decide, rfl, gw_mem 1439 (by decide +kernel) rfl, iu_X11⟩
theorem fl_X11_129 : FL RX11 129 11 60 := ⟨(RX11, TX11, 65), rfl, by decide, rfl, gw_mem 1440 (by decide +kernel) rfl, iu_X11⟩
theorem fl_X11_132 : FL RX11 132 11 61 := ⟨(RX11, TX11, 65), rfl, by decide, rfl, gw_mem 1441 (by decide +kernel) rfl, iu_X11⟩
theorem fl_X11_135 : FL RX11 135 11 62 := ⟨(RX11, TX11, 65), rfl, by decide, rfl, gw_mem 1442 (by decide +kernel) rfl, iu_X11⟩
theorem fl_X11_139 : FL RX11 139 11 63 := ⟨(RX11, TX11, 65), rfl, by decide, rfl, gw_mem 1443 (by decide +kernel) rfl, iu_X11⟩
theorem fl_X11_123 : FL RX11 123 11 58 := ⟨(RX11, TX11, 65), rfl, by decide, rfl, gw_mem 1438 (by decide +kernel) rfl, iu_X11⟩
theorem mv_X11_476 : MV RX11 476 11 yX11_knownMany cX11_knownMany 1 (some .int) 0 := ⟨gw_mem 1994 (by decide +kernel) rfl, cd_X11_knownMany, gw_mem 127 (by decide +kernel) rfl, gw_mem 1996 (by decide +kernel) rfl, gw_mem 107 (by decide +kernel) rfl, ⟨_, rfl, rfl⟩, by decide, by decide, by decide +kernel⟩
theorem fl_X11_142 : FL RX11 142 11 64 := ⟨(RX11, TX11, 65), rfl, by decide, rfl, gw_mem 1444 (by decide +kernel) rfl, iu_X11⟩
theorem mv_X11_479 : MV RX11 479 11 yX11_isSo cX11_isSo 3 (some .boolean) 1 := ⟨gw_mem 2002 (by decide +kernel) rfl, cd_X11_isSo, gw_mem 127 (by decide +kernel) rfl, gw_mem 2004 (by decide +kernel) rfl, gw_mem 109 (by decide +kernel) rfl, ⟨_, rfl, rfl⟩, by decide, by decide, by decide +kernel⟩
theorem fp_X11_108 : FP RX11 108 11 50 .int := ⟨(RX11, TX11, 65), rfl, by decide, rfl, gw_mem 1430 (by decide +kernel) rfl, iu_X11, ⟨tyX11, tyX11_ok⟩, nmX11, rfl, by decide +kernel⟩
theorem fp_X11_337 : FP RX11 337 11 51 .int := ⟨(RX11, TX11, 65), rfl, by decide, rfl, gw_mem 1431 (by decide +kernel) rfl, iu_X11, ⟨tyX11, tyX11_ok⟩, nmX11, rfl, by decide +kernel⟩
theorem mv_X11_482 : MV RX11 482 11 yX11_fitsTaste cX11_fitsTaste 3 (some .boolean) 1 := ⟨gw_mem 1998 (by decide +kernel) rfl, cd_X11_fitsTaste, gw_mem 127 (by decide +kernel) rfl, gw_mem 2000 (by decide +kernel) rfl, gw_mem 108 (by decide +kernel) rfl, ⟨_, rfl, rfl⟩, by decide, by decide, by decide +kernel⟩
theorem ct_X11_485 : Cond.constant RX11 485 (1103515245) ∈ gw := gw_mem 2010 (by decide +kernel) rfl
theorem ct_X11_488 : Cond.constant RX11 488 (2147483647) ∈ gw := gw_mem 2011 (by decide +kernel) rfl
theorem fp_X11_105 : FP RX11 105 11 49 .int := ⟨(RX11, TX11, 65), rfl, by decide, rfl, gw_mem 1429 (by decide +kernel) rfl, iu_X11, ⟨tyX11, tyX11_ok⟩, nmX11, rfl, by decide +kernel⟩
theorem fp_X11_343 : FP RX11 343 11 47 .int := ⟨(RX11, TX11, 65), rfl, by decide, rfl, gw_mem 1427 (by decide +kernel) rfl, iu_X11, ⟨tyX11, tyX11_ok⟩, nmX11, rfl, by decide +kernel⟩
theorem fp_X11_102 : FP RX11 102 11 48 .int := ⟨(RX11, TX11, 65), rfl, by decide, rfl, gw_mem 1428 (by decide +kernel) rfl, iu_X11, ⟨tyX11, tyX11_ok⟩, nmX11, rfl, by decide +kernel⟩
theorem fl_X11_307 : FL RX11 307 11 45 := ⟨(RX11, TX11, 65), rfl, by decide, rfl, gw_mem 1425 (by decide +kernel) rfl, iu_X11⟩
