theorem tb_1 {w : Cond} {i : Nat} (h0 : tables_1_1[i]? = some w) (hg : goodWord w = true) : w ∈ tg := List.mem_filter.mpr ⟨List.mem_append_right _ (show w ∈ tables_1 from (fun h : w ∈ tables_1_1 => List.mem_append_left _ h) (List.mem_of_getElem? h0)), hg⟩
theorem tb_2 {w : Cond} {i : Nat} (h0 : tables_1_2[i]? = some w) (hg : goodWord w = true) : w ∈ tg := List.mem_filter.mpr ⟨List.mem_append_right _ (show w ∈ tables_1 from (fun h : w ∈ tables_1_2 => List.mem_append_right _ (List.mem_append_left _ h)) (List.mem_of_getElem? h0)), hg⟩
theorem tb_3 {w : Cond} {i : Nat} (h0 : tables_1_3[i]? = some w) (hg : goodWord w = true) : w ∈ tg := List.mem_filter.mpr ⟨List.mem_append_right _ (show w ∈ tables_1 from (fun h : w ∈ tables_1_3 => List.mem_append_right _ (List.mem_append_right _ (List.mem_append_left _ h))) (List.mem_of_getElem? h0)), hg⟩
theorem tb_4 {w : Cond} {i : Nat} (h0 : tables_1_4[i]? = some w) (hg : goodWord w = true) : w ∈ tg := List.mem_filter.mpr ⟨List.mem_append_right _ (show w ∈ tables_1 from (fun h : w ∈ tables_1_4 => List.mem_append_right _ (List.mem_append_right _ (List.mem_append_right _ (List.mem_append_left _ h)))) (List.mem_of_getElem? h0)), hg⟩
theorem tb_5 {w : Cond} {i : Nat} (h0 : tables_1_5[i]? = some w) (hg : goodWord w = true) : w ∈ tg := List.mem_filter.mpr ⟨List.mem_append_right _ (show w ∈ tables_1 from (fun h : w ∈ tables_1_5 => List.mem_append_right _ (List.mem_append_right _ (List.mem_append_right _ (List.mem_append_right _ (List.mem_append_left _ h))))) (List.mem_of_getElem? h0)), hg⟩
theorem tb_6 {w : Cond} {i : Nat} (h0 : tables_1_6[i]? = some w) (hg : goodWord w = true) : w ∈ tg := List.mem_filter.mpr ⟨List.mem_append_right _ (show w ∈ tables_1 from (fun h : w ∈ tables_1_6 => List.mem_append_right _ (List.mem_append_right _ (List.mem_append_right _ (List.mem_append_right _ (List.mem_append_right _ (List.mem_append_left _ h)))))) (List.mem_of_getElem? h0)), hg⟩
theorem tb_7 {w : Cond} {i : Nat} (h0 : tables_1_7[i]? = some w) (hg : goodWord w = true) : w ∈ tg := List.mem_filter.mpr ⟨List.mem_append_right _ (show w ∈ tables_1 from (fun h : w ∈ tables_1_7 => List.mem_append_right _ (List.mem_append_right _ (List.mem_append_right _ (List.mem_append_right _ (List.mem_append_right _ (List.mem_append_right _ (List.mem_append_left _ h))))))) (List.mem_of_getElem? h0)), hg⟩
theorem tb_8 {w : Cond} {i : Nat} (h0 : tables_1_8[i]? = some w) (hg : goodWord w = true) : w ∈ tg := List.mem_filter.mpr ⟨List.mem_append_right _ (show w ∈ tables_1 from (fun h : w ∈ tables_1_8 => List.mem_append_right _ (List.mem_append_right _ (List.mem_append_right _ (List.mem_append_right _ (List.mem_append_right _ (List.mem_append_right _ (List.mem_append_right _ (h)))))))) (List.mem_of_getElem? h0)), hg⟩
set_option maxRecDepth 100000 in
theorem ce_0 : tables_1_4[186]? = some (.code yX0_put cX0_put 3 (some .boolean)) := rfl
set_option maxRecDepth 100000 in
theorem ce_1 : tables_1_4[220]? = some (.code yX0_hasPromotion cX0_hasPromotion 2 (some .boolean)) := rfl
set_option maxRecDepth 100000 in
theorem ce_2 : tables_1_4[211]? = some (.code yX0_offer cX0_offer 4 (some .int)) := rfl
set_option maxRecDepth 100000 in
theorem ce_3 : tables_1_5[19]? = some (.code yX0_isSortOf cX0_isSortOf 3 (some .boolean)) := rfl
set_option maxRecDepth 100000 in
theorem ce_4 : tables_1_5[73]? = some (.code yX1_append cX1_append 5 (some .int)) := rfl
set_option maxRecDepth 100000 in
theorem ce_5 : tables_1_5[82]? = some (.code yX1_seekHole cX1_seekHole 3 (some .int)) := rfl
set_option maxRecDepth 100000 in
theorem ce_6 : tables_1_5[86]? = some (.code yX1_goesRound cX1_goesRound 13 (some .boolean)) := rfl
set_option maxRecDepth 100000 in
theorem ce_7 : tables_1_5[105]? = some (.code yX2_append cX2_append 4 none) := rfl
set_option maxRecDepth 100000 in
theorem ce_8 : tables_1_5[101]? = some (.code yX2_isBarred cX2_isBarred 5 (some .boolean)) := rfl
set_option maxRecDepth 100000 in
theorem ce_9 : tables_1_4[175]? = some (.code yX3_enact cX3_enact 4 none) := rfl
set_option maxRecDepth 100000 in
theorem ce_10 : tables_1_3[143]? = some (.code yX3_value cX3_value 7 (some .int)) := rfl
set_option maxRecDepth 100000 in
theorem ce_11 : tables_1_3[146]? = some (.code yX3_worked cX3_worked 3 (some .int)) := rfl
set_option maxRecDepth 100000 in
theorem ce_12 : tables_1_4[13]? = some (.code yX4_read cX4_read 3 (some .boolean)) := rfl
set_option maxRecDepth 100000 in
theorem ce_13 : tables_1_4[149]? = some (.code yX4_readLevel cX4_readLevel 6 (some .boolean)) := rfl
set_option maxRecDepth 100000 in
theorem ce_14 : tables_1_4[153]? = some (.code yX4_readLeaf cX4_readLeaf 1 (some .boolean)) := rfl
set_option maxRecDepth 100000 in
theorem ce_15 : tables_1_4[161]? = some (.code yX4_readNot cX4_readNot 2 (some .boolean)) := rfl
set_option maxRecDepth 100000 in
theorem ce_16 : tables_1_4[165]? = some (.code yX4_readBracket cX4_readBracket 1 (some .boolean)) := rfl
set_option maxRecDepth 100000 in
theorem ce_17 : tables_1_4[168]? = some (.code yX4_levelOf cX4_levelOf 1 (some .int)) := rfl
set_option maxRecDepth 100000 in
theorem ce_18 : tables_1_4[171]? = some (.code yX4_workOf cX4_workOf 1 (some .int)) := rfl
set_option maxRecDepth 100000 in
theorem ce_19 : tables_1_4[157]? = some (.code yX4_emit cX4_emit 2 none) := rfl
set_option maxRecDepth 100000 in
theorem ce_20 : tables_1_4[18]? = some (.code yX4_advance cX4_advance 3 none) := rfl
set_option maxRecDepth 100000 in
theorem ce_21 : tables_1_4[26]? = some (.code yX4_takeLetters cX4_takeLetters 3 none) := rfl
set_option maxRecDepth 100000 in
theorem ce_22 : tables_1_4[145]? = some (.code yX4_takeDigits cX4_takeDigits 3 none) := rfl
set_option maxRecDepth 100000 in
theorem ce_23 : tables_1_4[22]? = some (.code yX4_isLetter cX4_isLetter 2 (some .boolean)) := rfl
set_option maxRecDepth 100000 in
theorem ce_24 : tables_1_4[141]? = some (.code yX4_isDigit cX4_isDigit 2 (some .boolean)) := rfl
set_option maxRecDepth 100000 in
theorem ce_25 : tables_1_4[114]? = some (.code yX4_isWord cX4_isWord 4 (some .boolean)) := rfl
set_option maxRecDepth 100000 in
theorem ce_26 : tables_1_3[94]? = some (.code yX5_has cX5_has 2 (some .boolean)) := rfl
set_option maxRecDepth 100000 in
theorem ce_27 : tables_1_3[28]? = some (.code yX5_isFull cX5_isFull 1 (some .boolean)) := rfl
set_option maxRecDepth 100000 in
theorem ce_28 : tables_1_3[119]? = some (.code yX5_isKnown cX5_isKnown 3 (some .boolean)) := rfl
set_option maxRecDepth 100000 in
theorem ce_29 : tables_1_3[39]? = some (.code yX5_append cX5_append 7 (some .int)) := rfl
set_option maxRecDepth 100000 in
theorem ce_30 : tables_1_3[46]? = some (.code yX5_putInOrder cX5_putInOrder 3 none) := rfl
set_option maxRecDepth 100000 in
theorem ce_31 : tables_1_4[232]? = some (.code yX6_start cX6_start 1 none) := rfl
set_option maxRecDepth 100000 in
theorem ce_32 : tables_1_4[237]? = some (.code yX6_all cX6_all 4 (some .int)) := rfl
set_option maxRecDepth 100000 in
theorem ce_33 : tables_1_5[7]? = some (.code yX6_mayCome cX6_mayCome 4 (some .boolean)) := rfl
set_option maxRecDepth 100000 in
theorem ce_34 : tables_1_5[11]? = some (.code yX6_work cX6_work 3 none) := rfl
set_option maxRecDepth 100000 in
theorem ce_35 : tables_1_5[15]? = some (.code yX6_takePart cX6_takePart 4 none) := rfl
set_option maxRecDepth 100000 in
theorem ce_36 : tables_1_5[23]? = some (.code yX6_takeOff cX6_takeOff 3 none) := rfl
set_option maxRecDepth 100000 in
theorem ce_37 : tables_1_5[27]? = some (.code yX6_takePair cX6_takePair 6 none) := rfl
set_option maxRecDepth 100000 in
theorem ce_38 : tables_1_5[32]? = some (.code yX6_takeCap cX6_takeCap 3 none) := rfl
set_option maxRecDepth 100000 in
theorem ce_39 : tables_1_4[228]? = some (.code yX6_seek cX6_seek 2 (some .boolean)) := rfl
set_option maxRecDepth 100000 in
theorem ce_40 : tables_1_5[3]? = some (.code yX6_seekBehind cX6_seekBehind 3 (some .boolean)) := rfl
set_option maxRecDepth 100000 in
theorem ce_41 : tables_1_5[36]? = some (.code yX6_keepIfBetter cX6_keepIfBetter 3 none) := rfl
set_option maxRecDepth 100000 in
theorem ce_42 : tables_1_5[62]? = some (.code yX6_writeRows cX6_writeRows 2 (some .int)) := rfl
set_option maxRecDepth 100000 in
theorem ce_43 : tables_1_4[194]? = some (.code yX7_isMissing cX7_isMissing 2 (some .boolean)) := rfl
set_option maxRecDepth 100000 in
theorem ce_44 : tables_1_5[134]? = some (.code yX7_hasPlaces cX7_hasPlaces 4 (some .boolean)) := rfl
set_option maxRecDepth 100000 in
theorem ce_45 : tables_1_3[110]? = some (.code yX8_play cX8_play 5 none) := rfl
set_option maxRecDepth 100000 in
theorem ce_46 : tables_1_3[114]? = some (.code yX8_forget cX8_forget 2 none) := rfl
set_option maxRecDepth 100000 in
theorem ce_47 : tables_1_3[123]? = some (.code yX8_brings cX8_brings 5 (some .boolean)) := rfl
set_option maxRecDepth 100000 in
theorem ce_48 : tables_1_3[127]? = some (.code yX8_comes cX8_comes 3 (some .boolean)) := rfl
set_option maxRecDepth 100000 in
theorem ce_49 : tables_1_3[153]? = some (.code yX8_isSpent cX8_isSpent 3 (some .boolean)) := rfl
set_option maxRecDepth 100000 in
theorem ce_50 : tables_1_3[162]? = some (.code yX8_isLoaded cX8_isLoaded 3 (some .boolean)) := rfl
set_option maxRecDepth 100000 in
theorem ce_51 : tables_1_3[171]? = some (.code yX8_isSplit cX8_isSplit 4 (some .boolean)) := rfl
set_option maxRecDepth 100000 in
theorem ce_52 : tables_1_3[180]? = some (.code yX8_isReturned cX8_isReturned 3 (some .boolean)) := rfl
set_option maxRecDepth 100000 in
theorem ce_53 : tables_1_3[184]? = some (.code yX8_isLost cX8_isLost 3 (some .boolean)) := rfl
set_option maxRecDepth 100000 in
theorem ce_54 : tables_1_3[166]? = some (.code yX8_hasRoom cX8_hasRoom 3 (some .boolean)) := rfl
set_option maxRecDepth 100000 in
theorem ce_55 : tables_1_3[175]? = some (.code yX8_takesFrom cX8_takesFrom 4 (some .boolean)) := rfl
set_option maxRecDepth 100000 in
theorem ce_56 : tables_1_3[157]? = some (.code yX8_sell cX8_sell 4 none) := rfl
set_option maxRecDepth 100000 in
theorem ce_57 : tables_1_3[131]? = some (.code yX8_isEnded cX8_isEnded 3 (some .boolean)) := rfl
set_option maxRecDepth 100000 in
theorem ce_58 : tables_1_3[135]? = some (.code yX8_life cX8_life 4 (some .int)) := rfl
set_option maxRecDepth 100000 in
theorem ce_59 : tables_1_3[139]? = some (.code yX8_namesOf cX8_namesOf 3 (some (.array .int))) := rfl
set_option maxRecDepth 100000 in
theorem ce_60 : tables_1_3[190]? = some (.code yX8_givesChange cX8_givesChange 4 (some .boolean)) := rfl
set_option maxRecDepth 100000 in
theorem ce_61 : tables_1_3[206]? = some (.code yX8_gainOf cX8_gainOf 5 (some .int)) := rfl
set_option maxRecDepth 100000 in
theorem ce_62 : tables_1_3[210]? = some (.code yX8_gainBy cX8_gainBy 5 (some .int)) := rfl
set_option maxRecDepth 100000 in
theorem ce_63 : tables_1_3[222]? = some (.code yX8_shareOf cX8_shareOf 11 (some .int)) := rfl
set_option maxRecDepth 100000 in
theorem ce_64 : tables_1_3[226]? = some (.code yX8_hasClaim cX8_hasClaim 4 (some .boolean)) := rfl
set_option maxRecDepth 100000 in
theorem ce_65 : tables_1_3[230]? = some (.code yX8_cutShare cX8_cutShare 6 (some .int)) := rfl
set_option maxRecDepth 100000 in
theorem ce_66 : tables_1_5[94]? = some (.code yX8_findCode cX8_findCode 5 (some .int)) := rfl
set_option maxRecDepth 100000 in
theorem ce_67 : tables_1_5[97]? = some (.code yX8_unlikeFigures cX8_unlikeFigures 5 (some .int)) := rfl
set_option maxRecDepth 100000 in
theorem ce_68 : tables_1_2[235]? = some (.code yX9_hasFirm cX9_hasFirm 2 (some .boolean)) := rfl
set_option maxRecDepth 100000 in
theorem ce_69 : tables_1_3[62]? = some (.code yX9_hasShop cX9_hasShop 2 (some .boolean)) := rfl
set_option maxRecDepth 100000 in
theorem ce_70 : tables_1_3[20]? = some (.code yX9_hasBeen cX9_hasBeen 2 (some .boolean)) := rfl
set_option maxRecDepth 100000 in
theorem ce_71 : tables_1_3[0]? = some (.code yX9_openShop cX9_openShop 2 (some .int)) := rfl
set_option maxRecDepth 100000 in
theorem ce_72 : tables_1_3[54]? = some (.code yX10_has cX10_has 2 (some .boolean)) := rfl
set_option maxRecDepth 100000 in
theorem ce_73 : tables_1_3[24]? = some (.code yX10_isFull cX10_isFull 1 (some .boolean)) := rfl
set_option maxRecDepth 100000 in
theorem ce_74 : tables_1_3[32]? = some (.code yX10_append cX10_append 6 (some .int)) := rfl
set_option maxRecDepth 100000 in
theorem ce_75 : tables_1_3[8]? = some (.code yX11_within cX11_within 3 (some .boolean)) := rfl
set_option maxRecDepth 100000 in
theorem ce_76 : tables_1_2[226]? = some (.code yX11_firm cX11_firm 1 (some .int)) := rfl
set_option maxRecDepth 100000 in
theorem ce_77 : tables_1_2[231]? = some (.code yX11_shop cX11_shop 2 (some .int)) := rfl
set_option maxRecDepth 100000 in
theorem ce_78 : tables_1_3[5]? = some (.code yX11_days cX11_days 2 (some .int)) := rfl
set_option maxRecDepth 100000 in
theorem ce_79 : tables_1_3[12]? = some (.code yX11_begin cX11_begin 8 (some .int)) := rfl
set_option maxRecDepth 100000 in
theorem ce_80 : tables_1_3[15]? = some (.code yX11_isKindAndLand cX11_isKindAndLand 1 (some .boolean)) := rfl
set_option maxRecDepth 100000 in
theorem ce_81 : tables_1_3[50]? = some (.code yX11_isOf cX11_isOf 4 (some .int)) := rfl
set_option maxRecDepth 100000 in
theorem ce_82 : tables_1_3[58]? = some (.code yX11_spend cX11_spend 5 (some .int)) := rfl
set_option maxRecDepth 100000 in
theorem ce_83 : tables_1_3[74]? = some (.code yX11_load cX11_load 4 (some .int)) := rfl
set_option maxRecDepth 100000 in
theorem ce_84 : tables_1_3[78]? = some (.code yX11_split cX11_split 5 (some .int)) := rfl
set_option maxRecDepth 100000 in
theorem ce_85 : tables_1_3[82]? = some (.code yX11_back cX11_back 5 (some .int)) := rfl
set_option maxRecDepth 100000 in
theorem ce_86 : tables_1_3[66]? = some (.code yX11_tellSum cX11_tellSum 6 (some .int)) := rfl
set_option maxRecDepth 100000 in
theorem ce_87 : tables_1_3[70]? = some (.code yX11_tellLine cX11_tellLine 6 (some .int)) := rfl
set_option maxRecDepth 100000 in
theorem ce_88 : tables_1_3[86]? = some (.code yX11_lose cX11_lose 4 (some .int)) := rfl
set_option maxRecDepth 100000 in
theorem ce_89 : tables_1_3[90]? = some (.code yX11_withdraw cX11_withdraw 2 (some .int)) := rfl
set_option maxRecDepth 100000 in
theorem ce_90 : tables_1_3[99]? = some (.code yX11_line cX11_line 3 (some .int)) := rfl
set_option maxRecDepth 100000 in
theorem ce_91 : tables_1_3[106]? = some (.code yX11_areDays cX11_areDays 2 (some .boolean)) := rfl
set_option maxRecDepth 100000 in
theorem ce_92 : tables_1_3[103]? = some (.code yX11_stands cX11_stands 5 (some .int)) := rfl
set_option maxRecDepth 100000 in
theorem ce_93 : tables_1_3[194]? = some (.code yX11_idle cX11_idle 3 (some .int)) := rfl
set_option maxRecDepth 100000 in
theorem ce_94 : tables_1_3[198]? = some (.code yX11_owes cX11_owes 5 (some .int)) := rfl
set_option maxRecDepth 100000 in
theorem ce_95 : tables_1_3[202]? = some (.code yX11_gain cX11_gain 4 (some .int)) := rfl
set_option maxRecDepth 100000 in
theorem ce_96 : tables_1_3[217]? = some (.code yX11_fall cX11_fall 3 (some .int)) := rfl
set_option maxRecDepth 100000 in
theorem ce_97 : tables_1_3[237]? = some (.code yX11_feed cX11_feed 4 (some .int)) := rfl
set_option maxRecDepth 100000 in
theorem ce_98 : tables_1_4[1]? = some (.code yX11_putOnTape cX11_putOnTape 3 none) := rfl
set_option maxRecDepth 100000 in
theorem ce_99 : tables_1_4[5]? = some (.code yX11_trim cX11_trim 2 (some .int)) := rfl
set_option maxRecDepth 100000 in
theorem ce_100 : tables_1_4[9]? = some (.code yX11_law cX11_law 3 (some .int)) := rfl
set_option maxRecDepth 100000 in
theorem ce_101 : tables_1_4[182]? = some (.code yX11_item cX11_item 3 (some .int)) := rfl
set_option maxRecDepth 100000 in
theorem ce_102 : tables_1_4[190]? = some (.code yX11_items cX11_items 6 (some .int)) := rfl
set_option maxRecDepth 100000 in
theorem ce_103 : tables_1_4[199]? = some (.code yX11_empty cX11_empty 2 (some .int)) := rfl
set_option maxRecDepth 100000 in
theorem ce_104 : tables_1_4[203]? = some (.code yX11_promotion cX11_promotion 4 (some .int)) := rfl
set_option maxRecDepth 100000 in
theorem ce_105 : tables_1_4[206]? = some (.code yX11_isPromotion cX11_isPromotion 3 (some .boolean)) := rfl
set_option maxRecDepth 100000 in
theorem ce_106 : tables_1_4[216]? = some (.code yX11_join cX11_join 5 (some .int)) := rfl
set_option maxRecDepth 100000 in
theorem ce_107 : tables_1_4[224]? = some (.code yX11_mix cX11_mix 2 (some .int)) := rfl
set_option maxRecDepth 100000 in
theorem ce_108 : tables_1_5[41]? = some (.code yX11_mixed cX11_mixed 3 (some .int)) := rfl
set_option maxRecDepth 100000 in
theorem ce_109 : tables_1_5[45]? = some (.code yX11_costs cX11_costs 5 (some .int)) := rfl
set_option maxRecDepth 100000 in
theorem ce_110 : tables_1_5[54]? = some (.code yX11_tell cX11_tell 2 (some .int)) := rfl
set_option maxRecDepth 100000 in
theorem ce_111 : tables_1_5[58]? = some (.code yX11_check cX11_check 5 (some .int)) := rfl
set_option maxRecDepth 100000 in
theorem ce_112 : tables_1_5[66]? = some (.code yX11_exchange cX11_exchange 5 (some .int)) := rfl
set_option maxRecDepth 100000 in
theorem ce_113 : tables_1_5[69]? = some (.code yX11_isForm cX11_isForm 1 (some .boolean)) := rfl
set_option maxRecDepth 100000 in
theorem ce_114 : tables_1_5[78]? = some (.code yX11_hole cX11_hole 4 (some .int)) := rfl
set_option maxRecDepth 100000 in
theorem ce_115 : tables_1_5[90]? = some (.code yX11_guess cX11_guess 5 (some .int)) := rfl
set_option maxRecDepth 100000 in
theorem ce_116 : tables_1_5[109]? = some (.code yX11_barred cX11_barred 2 (some .int)) := rfl
set_option maxRecDepth 100000 in
theorem ce_117 : tables_1_5[113]? = some (.code yX11_tries cX11_tries 3 (some .int)) := rfl
set_option maxRecDepth 100000 in
theorem ce_118 : tables_1_5[117]? = some (.code yX11_sheet cX11_sheet 3 (some .int)) := rfl
set_option maxRecDepth 100000 in
theorem ce_119 : tables_1_5[125]? = some (.code yX11_mark cX11_mark 5 (some .int)) := rfl
set_option maxRecDepth 100000 in
theorem ce_120 : tables_1_5[130]? = some (.code yX11_copy cX11_copy 6 (some .int)) := rfl
set_option maxRecDepth 100000 in
theorem ce_121 : tables_1_5[139]? = some (.code yX11_count cX11_count 2 (some .int)) := rfl
set_option maxRecDepth 100000 in
theorem ce_122 : tables_1_6[153]? = some (.code yX12_isIn cX12_isIn 3 (some .boolean)) := rfl
set_option maxRecDepth 100000 in
theorem ce_123 : tables_1_6[223]? = some (.code yX12_orNone cX12_orNone 1 (some .int)) := rfl
set_option maxRecDepth 100000 in
theorem ce_124 : tables_1_6[150]? = some (.code yX12_isFirm cX12_isFirm 2 (some .boolean)) := rfl
set_option maxRecDepth 100000 in
theorem ce_125 : tables_1_6[187]? = some (.code yX12_isShop cX12_isShop 2 (some .boolean)) := rfl
set_option maxRecDepth 100000 in
theorem ce_126 : tables_1_6[179]? = some (.code yX12_isVoucher cX12_isVoucher 2 (some .boolean)) := rfl
set_option maxRecDepth 100000 in
theorem ce_127 : tables_1_6[230]? = some (.code yX12_isDay cX12_isDay 1 (some .boolean)) := rfl
set_option maxRecDepth 100000 in
theorem ce_128 : tables_1_6[167]? = some (.code yX12_isPast cX12_isPast 2 (some .boolean)) := rfl
set_option maxRecDepth 100000 in
theorem ce_129 : tables_1_6[190]? = some (.code yX12_isSum cX12_isSum 1 (some .boolean)) := rfl
set_option maxRecDepth 100000 in
theorem ce_130 : tables_1_6[141]? = some (.code yX12_firm cX12_firm 1 (some .int)) := rfl
set_option maxRecDepth 100000 in
theorem ce_131 : tables_1_6[146]? = some (.code yX12_shop cX12_shop 2 (some .int)) := rfl
set_option maxRecDepth 100000 in
theorem ce_132 : tables_1_6[158]? = some (.code yX12_days cX12_days 2 (some .int)) := rfl
set_option maxRecDepth 100000 in
theorem ce_133 : tables_1_6[171]? = some (.code yX12_comes cX12_comes 6 (some .int)) := rfl
set_option maxRecDepth 100000 in
theorem ce_134 : tables_1_6[162]? = some (.code yX12_begin cX12_begin 8 (some .int)) := rfl
set_option maxRecDepth 100000 in
theorem ce_135 : tables_1_6[175]? = some (.code yX12_isOf cX12_isOf 3 (some .int)) := rfl
set_option maxRecDepth 100000 in
theorem ce_136 : tables_1_6[183]? = some (.code yX12_spend cX12_spend 5 (some .int)) := rfl
set_option maxRecDepth 100000 in
theorem ce_137 : tables_1_6[194]? = some (.code yX12_load cX12_load 4 (some .int)) := rfl
set_option maxRecDepth 100000 in
theorem ce_138 : tables_1_6[198]? = some (.code yX12_split cX12_split 6 (some .int)) := rfl
set_option maxRecDepth 100000 in
theorem ce_139 : tables_1_6[202]? = some (.code yX12_back cX12_back 5 (some .int)) := rfl
set_option maxRecDepth 100000 in
theorem ce_140 : tables_1_6[206]? = some (.code yX12_lose cX12_lose 5 (some .int)) := rfl
set_option maxRecDepth 100000 in
theorem ce_141 : tables_1_6[215]? = some (.code yX12_isLine cX12_isLine 2 (some .boolean)) := rfl
set_option maxRecDepth 100000 in
theorem ce_142 : tables_1_6[211]? = some (.code yX12_withdraw cX12_withdraw 2 (some .int)) := rfl
set_option maxRecDepth 100000 in
theorem ce_143 : tables_1_6[220]? = some (.code yX12_line cX12_line 3 (some .int)) := rfl
set_option maxRecDepth 100000 in
theorem ce_144 : tables_1_7[6]? = some (.code yX12_lifeOf cX12_lifeOf 4 (some .int)) := rfl
set_option maxRecDepth 100000 in
theorem ce_145 : tables_1_7[2]? = some (.code yX12_isEnded cX12_isEnded 3 (some .boolean)) := rfl
set_option maxRecDepth 100000 in
theorem ce_146 : tables_1_7[24]? = some (.code yX12_gets cX12_gets 3 (some .boolean)) := rfl
set_option maxRecDepth 100000 in
theorem ce_147 : tables_1_6[238]? = some (.code yX12_brings cX12_brings 8 (some .boolean)) := rfl
set_option maxRecDepth 100000 in
theorem ce_148 : tables_1_6[234]? = some (.code yX12_goThrough cX12_goThrough 6 none) := rfl
set_option maxRecDepth 100000 in
theorem ce_149 : tables_1_6[227]? = some (.code yX12_stands cX12_stands 7 (some .int)) := rfl
set_option maxRecDepth 100000 in
theorem ce_150 : tables_1_7[28]? = some (.code yX12_idle cX12_idle 3 (some .int)) := rfl
set_option maxRecDepth 100000 in
theorem ce_151 : tables_1_7[32]? = some (.code yX12_owes cX12_owes 5 (some .int)) := rfl
set_option maxRecDepth 100000 in
theorem ce_152 : tables_1_7[36]? = some (.code yX12_gain cX12_gain 7 (some .int)) := rfl
set_option maxRecDepth 100000 in
theorem ce_153 : tables_1_7[40]? = some (.code yX12_fall cX12_fall 10 (some .int)) := rfl
set_option maxRecDepth 100000 in
theorem ce_154 : tables_1_7[45]? = some (.code yX12_isOne cX12_isOne 3 (some .boolean)) := rfl
set_option maxRecDepth 100000 in
theorem ce_155 : tables_1_7[49]? = some (.code yX12_part cX12_part 8 (some .long)) := rfl
set_option maxRecDepth 100000 in
theorem ce_156 : tables_1_7[17]? = some (.code yX12_is cX12_is 1 (some .int)) := rfl
set_option maxRecDepth 100000 in
theorem ce_157 : tables_1_7[20]? = some (.code yX12_joined cX12_joined 3 (some .int)) := rfl
set_option maxRecDepth 100000 in
theorem ce_158 : tables_1_7[14]? = some (.code yX12_named cX12_named 4 (some .int)) := rfl
set_option maxRecDepth 100000 in
theorem ce_159 : tables_1_7[10]? = some (.code yX12_worked cX12_worked 6 (some .int)) := rfl
set_option maxRecDepth 100000 in
theorem ce_160 : tables_1_7[69]? = some (.code yX12_byteAt cX12_byteAt 2 (some .int)) := rfl
set_option maxRecDepth 100000 in
theorem ce_161 : tables_1_7[72]? = some (.code yX12_isLetter cX12_isLetter 1 (some .boolean)) := rfl
set_option maxRecDepth 100000 in
theorem ce_162 : tables_1_7[75]? = some (.code yX12_isDigit cX12_isDigit 1 (some .boolean)) := rfl
set_option maxRecDepth 100000 in
theorem ce_163 : tables_1_7[65]? = some (.code yX12_next cX12_next 5 none) := rfl
set_option maxRecDepth 100000 in
theorem ce_164 : tables_1_7[83]? = some (.code yX12_must cX12_must 2 none) := rfl
set_option maxRecDepth 100000 in
theorem ce_165 : tables_1_7[119]? = some (.code yX12_isSign cX12_isSign 2 (some .boolean)) := rfl
set_option maxRecDepth 100000 in
theorem ce_166 : tables_1_7[115]? = some (.code yX12_step cX12_step 3 none) := rfl
set_option maxRecDepth 100000 in
theorem ce_167 : tables_1_7[87]? = some (.code yX12_goOn cX12_goOn 1 none) := rfl
set_option maxRecDepth 100000 in
theorem ce_168 : tables_1_7[91]? = some (.code yX12_or cX12_or 1 none) := rfl
set_option maxRecDepth 100000 in
theorem ce_169 : tables_1_7[95]? = some (.code yX12_and cX12_and 1 none) := rfl
set_option maxRecDepth 100000 in
theorem ce_170 : tables_1_7[99]? = some (.code yX12_test cX12_test 2 none) := rfl
set_option maxRecDepth 100000 in
theorem ce_171 : tables_1_7[103]? = some (.code yX12_sum cX12_sum 2 none) := rfl
set_option maxRecDepth 100000 in
theorem ce_172 : tables_1_7[107]? = some (.code yX12_product cX12_product 2 none) := rfl
set_option maxRecDepth 100000 in
theorem ce_173 : tables_1_7[111]? = some (.code yX12_part_ cX12_part_ 2 none) := rfl
set_option maxRecDepth 100000 in
theorem ce_174 : tables_1_7[79]? = some (.code yX12_isHead cX12_isHead 5 (some .boolean)) := rfl
set_option maxRecDepth 100000 in
theorem ce_175 : tables_1_7[53]? = some (.code yX12_feed cX12_feed 6 (some .int)) := rfl
set_option maxRecDepth 100000 in
theorem ce_176 : tables_1_7[57]? = some (.code yX12_trim cX12_trim 2 (some .int)) := rfl
set_option maxRecDepth 100000 in
theorem ce_177 : tables_1_7[61]? = some (.code yX12_law cX12_law 4 (some .int)) := rfl
set_option maxRecDepth 100000 in
theorem ce_178 : tables_1_7[123]? = some (.code yX12_item cX12_item 3 (some .int)) := rfl
set_option maxRecDepth 100000 in
theorem ce_179 : tables_1_7[130]? = some (.code yX12_isSheet cX12_isSheet 1 (some .boolean)) := rfl
set_option maxRecDepth 100000 in
theorem ce_180 : tables_1_7[127]? = some (.code yX12_items cX12_items 5 (some .int)) := rfl
set_option maxRecDepth 100000 in
theorem ce_181 : tables_1_7[136]? = some (.code yX12_empty cX12_empty 2 (some .int)) := rfl
set_option maxRecDepth 100000 in
theorem ce_182 : tables_1_7[140]? = some (.code yX12_promotion cX12_promotion 5 (some .int)) := rfl
set_option maxRecDepth 100000 in
theorem ce_183 : tables_1_7[149]? = some (.code yX12_isPromotion cX12_isPromotion 2 (some .boolean)) := rfl
set_option maxRecDepth 100000 in
theorem ce_184 : tables_1_7[145]? = some (.code yX12_join cX12_join 5 (some .int)) := rfl
set_option maxRecDepth 100000 in
theorem ce_185 : tables_1_7[172]? = some (.code yX12_all cX12_all 3 (some .int)) := rfl
set_option maxRecDepth 100000 in
theorem ce_186 : tables_1_7[168]? = some (.code yX12_work cX12_work 6 none) := rfl
set_option maxRecDepth 100000 in
theorem ce_187 : tables_1_7[164]? = some (.code yX12_costsOf cX12_costsOf 3 (some .int)) := rfl
set_option maxRecDepth 100000 in
theorem ce_188 : tables_1_7[176]? = some (.code yX12_mayCome cX12_mayCome 5 (some .boolean)) := rfl
set_option maxRecDepth 100000 in
theorem ce_189 : tables_1_7[160]? = some (.code yX12_mixes cX12_mixes 6 (some .boolean)) := rfl
set_option maxRecDepth 100000 in
theorem ce_190 : tables_1_7[156]? = some (.code yX12_areTries cX12_areTries 1 (some .boolean)) := rfl
set_option maxRecDepth 100000 in
theorem ce_191 : tables_1_7[153]? = some (.code yX12_mix cX12_mix 2 (some .int)) := rfl
set_option maxRecDepth 100000 in
theorem ce_192 : tables_1_7[181]? = some (.code yX12_mixed cX12_mixed 3 (some .int)) := rfl
set_option maxRecDepth 100000 in
theorem ce_193 : tables_1_7[185]? = some (.code yX12_costs cX12_costs 5 (some .int)) := rfl
set_option maxRecDepth 100000 in
theorem ce_194 : tables_1_7[189]? = some (.code yX12_tell cX12_tell 2 (some .int)) := rfl
set_option maxRecDepth 100000 in
theorem ce_195 : tables_1_7[193]? = some (.code yX12_check cX12_check 4 (some .int)) := rfl
set_option maxRecDepth 100000 in
theorem ce_196 : tables_1_7[200]? = some (.code yX12_isForm cX12_isForm 1 (some .boolean)) := rfl
set_option maxRecDepth 100000 in
theorem ce_197 : tables_1_7[197]? = some (.code yX12_exchange cX12_exchange 5 (some .int)) := rfl
set_option maxRecDepth 100000 in
theorem ce_198 : tables_1_7[212]? = some (.code yX12_fits cX12_fits 7 (some .boolean)) := rfl
set_option maxRecDepth 100000 in
theorem ce_199 : tables_1_7[216]? = some (.code yX12_isHole cX12_isHole 7 (some .boolean)) := rfl
set_option maxRecDepth 100000 in
theorem ce_200 : tables_1_7[208]? = some (.code yX12_findsHole cX12_findsHole 4 (some .boolean)) := rfl
set_option maxRecDepth 100000 in
theorem ce_201 : tables_1_7[204]? = some (.code yX12_hole cX12_hole 4 (some .int)) := rfl
set_option maxRecDepth 100000 in
theorem ce_202 : tables_1_7[227]? = some (.code yX12_isBarred cX12_isBarred 4 (some .boolean)) := rfl
set_option maxRecDepth 100000 in
theorem ce_203 : tables_1_7[223]? = some (.code yX12_differ cX12_differ 4 (some .int)) := rfl
set_option maxRecDepth 100000 in
theorem ce_204 : tables_1_7[220]? = some (.code yX12_guess cX12_guess 6 (some .int)) := rfl
set_option maxRecDepth 100000 in
theorem ce_205 : tables_1_7[231]? = some (.code yX12_barred cX12_barred 2 (some .int)) := rfl
set_option maxRecDepth 100000 in
theorem ce_206 : tables_1_7[235]? = some (.code yX12_tries cX12_tries 3 (some .int)) := rfl
set_option maxRecDepth 100000 in
theorem ce_207 : tables_1_7[239]? = some (.code yX12_sheet cX12_sheet 4 (some .int)) := rfl
set_option maxRecDepth 100000 in
theorem ce_208 : tables_1_8[4]? = some (.code yX12_mark cX12_mark 5 (some .int)) := rfl
set_option maxRecDepth 100000 in
theorem ce_209 : tables_1_8[9]? = some (.code yX12_copy cX12_copy 7 (some .int)) := rfl
set_option maxRecDepth 100000 in
theorem ce_210 : tables_1_8[13]? = some (.code yX12_count cX12_count 4 (some .int)) := rfl
set_option maxRecDepth 100000 in
theorem ce_211 : tables_1_4[45]? = some (.code yJ0_length_8abf5 cJ0_length_8abf5 1 (some .int)) := rfl
set_option maxRecDepth 100000 in
theorem ce_212 : tables_1_4[119]? = some (.code yJ0_charAt_5068e cJ0_charAt_5068e 2 (some .char)) := rfl
set_option maxRecDepth 100000 in
theorem ce_213 : tables_1_4[31]? = some (.code yJ0_indexOf_0f7a4 cJ0_indexOf_0f7a4 2 (some .int)) := rfl
set_option maxRecDepth 100000 in
theorem ce_214 : tables_1_4[35]? = some (.code yJ0_indexOf_7cf53 cJ0_indexOf_7cf53 3 (some .int)) := rfl
set_option maxRecDepth 100000 in
theorem ce_215 : tables_1_4[49]? = some (.code yJ0_coder_7d493 cJ0_coder_7d493 1 (some .byte)) := rfl
set_option maxRecDepth 100000 in
theorem ce_216 : tables_1_4[39]? = some (.code yJ0_isLatin1_aae02 cJ0_isLatin1_aae02 1 (some .boolean)) := rfl
set_option maxRecDepth 100000 in
theorem ce_217 : tables_1_4[125]? = some (.code yJ0_checkIndex_df160 cJ0_checkIndex_df160 2 none) := rfl
set_option maxRecDepth 100000 in
theorem ce_218 : tables_1_4[122]? = some (.code yJ1_charAt_3b067 cJ1_charAt_3b067 2 (some .char)) := rfl
set_option maxRecDepth 100000 in
theorem ce_219 : tables_1_4[55]? = some (.code yJ1_canEncode_9a6ad cJ1_canEncode_9a6ad 1 (some .boolean)) := rfl
set_option maxRecDepth 100000 in
theorem ce_220 : tables_1_4[52]? = some (.code yJ1_indexOf_4cfef cJ1_indexOf_4cfef 4 (some .int)) := rfl
set_option maxRecDepth 100000 in
theorem ce_221 : tables_1_4[60]? = some (.code yJ1_indexOfChar_4cfef cJ1_indexOfChar_4cfef 6 (some .int)) := rfl
set_option maxRecDepth 100000 in
theorem ce_222 : tables_1_2[166]? = some (.code yJ7_fill_53178 cJ7_fill_53178 4 none) := rfl
set_option maxRecDepth 100000 in
theorem ce_223 : tables_1_5[121]? = some (.code yJ7_fill_fb410 cJ7_fill_fb410 4 none) := rfl
set_option maxRecDepth 100000 in
theorem ce_224 : tables_1_4[128]? = some (.code yJ3_checkIndex_8e157 cJ3_checkIndex_8e157 3 (some .int)) := rfl
def cin (t : Nat) : Prop := Cond.code (mN t) (mC t) (mL t) (mR t) ∈ tg
set_option maxRecDepth 100000 in
theorem cin_all_25 : ∀ t, t < 25 → cin t := lt_s (lt_s (lt_s (lt_s (lt_s (lt_s (lt_s (lt_s (lt_s (lt_s (lt_s (lt_s (lt_s (lt_s (lt_s (lt_s (lt_s (lt_s (lt_s (lt_s (lt_s (lt_s (lt_s (lt_s (lt_s (lt_0) (tb_4 ce_0 rfl)) (tb_4 ce_1 rfl)) (tb_4 ce_2 rfl)) (tb_5 ce_3 rfl)) (tb_5 ce_4 rfl)) (tb_5 ce_5 rfl)) (tb_5 ce_6 rfl)) (tb_5 ce_7 rfl)) (tb_5 ce_8 rfl)) (tb_4 ce_9 rfl)) (tb_3 ce_10 rfl)) (tb_3 ce_11 rfl)) (tb_4 ce_12 rfl)) (tb_4 ce_13 rfl)) (tb_4 ce_14 rfl)) (tb_4 ce_15 rfl)) (tb_4 ce_16 rfl)) (tb_4 ce_17 rfl)) (tb_4 ce_18 rfl)) (tb_4 ce_19 rfl)) (tb_4 ce_20 rfl)) (tb_4 ce_21 rfl)) (tb_4 ce_22 rfl)) (tb_4 ce_23 rfl)) (tb_4 ce_24 rfl)
set_option maxRecDepth 100000 in
theorem cin_all_50 : ∀ t, t < 50 → cin t := lt_s (lt_s (lt_s (lt_s (lt_s (lt_s (lt_s (lt_s (lt_s (lt_s (lt_s (lt_s (lt_s (lt_s (lt_s (lt_s (lt_s (lt_s (lt_s (lt_s (lt_s (lt_s (lt_s (lt_s (lt_s (cin_all_25) (tb_4 ce_25 rfl)) (tb_3 ce_26 rfl)) (tb_3 ce_27 rfl)) (tb_3 ce_28 rfl)) (tb_3 ce_29 rfl)) (tb_3 ce_30 rfl)) (tb_4 ce_31 rfl)) (tb_4 ce_32 rfl)) (tb_5 ce_33 rfl)) (tb_5 ce_34 rfl)) (tb_5 ce_35 rfl)) (tb_5 ce_36 rfl)) (tb_5 ce_37 rfl)) (tb_5 ce_38 rfl)) (tb_4 ce_39 rfl)) (tb_5 ce_40 rfl)) (tb_5 ce_41 rfl)) (tb_5 ce_42 rfl)) (tb_4 ce_43 rfl)) (tb_5 ce_44 rfl)) (tb_3 ce_45 rfl)) (tb_3 ce_46 rfl)) (tb_3 ce_47 rfl)) (tb_3 ce_48 rfl)) (tb_3 ce_49 rfl)
set_option maxRecDepth 100000 in
theorem cin_all_75 : ∀ t, t < 75 → cin t := lt_s (lt_s (lt_s (lt_s (lt_s (lt_s (lt_s (lt_s (lt_s (lt_s (lt_s (lt_s (lt_s (lt_s (lt_s (lt_s (lt_s (lt_s (lt_s (lt_s (lt_s (lt_s (lt_s (lt_s (lt_s (cin_all_50) (tb_3 ce_50 rfl)) (tb_3 ce_51 rfl)) (tb_3 ce_52 rfl)) (tb_3 ce_53 rfl)) (tb_3 ce_54 rfl)) (tb_3 ce_55 rfl)) (tb_3 ce_56 rfl)) (tb_3 ce_57 rfl)) (tb_3 ce_58 rfl)) (tb_3 ce_59 rfl)) (tb_3 ce_60 rfl)) (tb_3 ce_61 rfl)) (tb_3 ce_62 rfl)) (tb_3 ce_63 rfl)) (tb_3 ce_64 rfl)) (tb_3 ce_65 rfl)) (tb_5 ce_66 rfl)) (tb_5 ce_67 rfl)) (tb_2 ce_68 rfl)) (tb_3 ce_69 rfl)) (tb_3 ce_70 rfl)) (tb_3 ce_71 rfl)) (tb_3 ce_72 rfl)) (tb_3 ce_73 rfl)) (tb_3 ce_74 rfl)
set_option maxRecDepth 100000 in
theorem cin_all_100 : ∀ t, t < 100 → cin t := lt_s (lt_s (lt_s (lt_s (lt_s (lt_s (lt_s (lt_s (lt_s (lt_s (lt_s (lt_s (lt_s (lt_s (lt_s (lt_s (lt_s (lt_s (lt_s (lt_s (lt_s (lt_s (lt_s (lt_s (lt_s (cin_all_75) (tb_3 ce_75 rfl)) (tb_2 ce_76 rfl)) (tb_2 ce_77 rfl)) (tb_3 ce_78 rfl)) (tb_3 ce_79 rfl)) (tb_3 ce_80 rfl)) (tb_3 ce_81 rfl)) (tb_3 ce_82 rfl)) (tb_3 ce_83 rfl)) (tb_3 ce_84 rfl)) (tb_3 ce_85 rfl)) (tb_3 ce_86 rfl)) (tb_3 ce_87 rfl)) (tb_3 ce_88 rfl)) (tb_3 ce_89 rfl)) (tb_3 ce_90 rfl)) (tb_3 ce_91 rfl)) (tb_3 ce_92 rfl)) (tb_3 ce_93 rfl)) (tb_3 ce_94 rfl)) (tb_3 ce_95 rfl)) (tb_3 ce_96 rfl)) (tb_3 ce_97 rfl)) (tb_4 ce_98 rfl)) (tb_4 ce_99 rfl)
set_option maxRecDepth 100000 in
theorem cin_all_125 : ∀ t, t < 125 → cin t := lt_s (lt_s (lt_s (lt_s (lt_s (lt_s (lt_s (lt_s (lt_s (lt_s (lt_s (lt_s (lt_s (lt_s (lt_s (lt_s (lt_s (lt_s (lt_s (lt_s (lt_s (lt_s (lt_s (lt_s (lt_s (cin_all_100) (tb_4 ce_100 rfl)) (tb_4 ce_101 rfl)) (tb_4 ce_102 rfl)) (tb_4 ce_103 rfl)) (tb_4 ce_104 rfl)) (tb_4 ce_105 rfl)) (tb_4 ce_106 rfl)) (tb_4 ce_107 rfl)) (tb_5 ce_108 rfl)) (tb_5 ce_109 rfl)) (tb_5 ce_110 rfl)) (tb_5 ce_111 rfl)) (tb_5 ce_112 rfl)) (tb_5 ce_113 rfl)) (tb_5 ce_114 rfl)) (tb_5 ce_115 rfl)) (tb_5 ce_116 rfl)) (tb_5 ce_117 rfl)) (tb_5 ce_118 rfl)) (tb_5 ce_119 rfl)) (tb_5 ce_120 rfl)) (tb_5 ce_121 rfl)) (tb_6 ce_122 rfl)) (tb_6 ce_123 rfl)) (tb_6 ce_124 rfl)
set_option maxRecDepth 100000 in
theorem cin_all_150 : ∀ t, t < 150 → cin t := lt_s (lt_s (lt_s (lt_s (lt_s (lt_s (lt_s (lt_s (lt_s (lt_s (lt_s (lt_s (lt_s (lt_s (lt_s (lt_s (lt_s (lt_s (lt_s (lt_s (lt_s (lt_s (lt_s (lt_s (lt_s (cin_all_125) (tb_6 ce_125 rfl)) (tb_6 ce_126 rfl)) (tb_6 ce_127 rfl)) (tb_6 ce_128 rfl)) (tb_6 ce_129 rfl)) (tb_6 ce_130 rfl)) (tb_6 ce_131 rfl)) (tb_6 ce_132 rfl)) (tb_6 ce_133 rfl)) (tb_6 ce_134 rfl)) (tb_6 ce_135 rfl)) (tb_6 ce_136 rfl)) (tb_6 ce_137 rfl)) (tb_6 ce_138 rfl)) (tb_6 ce_139 rfl)) (tb_6 ce_140 rfl)) (tb_6 ce_141 rfl)) (tb_6 ce_142 rfl)) (tb_6 ce_143 rfl)) (tb_7 ce_144 rfl)) (tb_7 ce_145 rfl)) (tb_7 ce_146 rfl)) (tb_6 ce_147 rfl)) (tb_6 ce_148 rfl)) (tb_6 ce_149 rfl)
set_option maxRecDepth 100000 in
theorem cin_all_175 : ∀ t, t < 175 → cin t := lt_s (lt_s (lt_s (lt_s (lt_s (lt_s (lt_s (lt_s (lt_s (lt_s (lt_s (lt_s (lt_s (lt_s (lt_s (lt_s (lt_s (lt_s (lt_s (lt_s (lt_s (lt_s (lt_s (lt_s (lt_s (cin_all_150) (tb_7 ce_150 rfl)) (tb_7 ce_151 rfl)) (tb_7 ce_152 rfl)) (tb_7 ce_153 rfl)) (tb_7 ce_154 rfl)) (tb_7 ce_155 rfl)) (tb_7 ce_156 rfl)) (tb_7 ce_157 rfl)) (tb_7 ce_158 rfl)) (tb_7 ce_159 rfl)) (tb_7 ce_160 rfl)) (tb_7 ce_161 rfl)) (tb_7 ce_162 rfl)) (tb_7 ce_163 rfl)) (tb_7 ce_164 rfl)) (tb_7 ce_165 rfl)) (tb_7 ce_166 rfl)) (tb_7 ce_167 rfl)) (tb_7 ce_168 rfl)) (tb_7 ce_169 rfl)) (tb_7 ce_170 rfl)) (tb_7 ce_171 rfl)) (tb_7 ce_172 rfl)) (tb_7 ce_173 rfl)) (tb_7 ce_174 rfl)
set_option maxRecDepth 100000 in
theorem cin_all_200 : ∀ t, t < 200 → cin t := lt_s (lt_s (lt_s (lt_s (lt_s (lt_s (lt_s (lt_s (lt_s (lt_s (lt_s (lt_s (lt_s (lt_s (lt_s (lt_s (lt_s (lt_s (lt_s (lt_s (lt_s (lt_s (lt_s (lt_s (lt_s (cin_all_175) (tb_7 ce_175 rfl)) (tb_7 ce_176 rfl)) (tb_7 ce_177 rfl)) (tb_7 ce_178 rfl)) (tb_7 ce_179 rfl)) (tb_7 ce_180 rfl)) (tb_7 ce_181 rfl)) (tb_7 ce_182 rfl)) (tb_7 ce_183 rfl)) (tb_7 ce_184 rfl)) (tb_7 ce_185 rfl)) (tb_7 ce_186 rfl)) (tb_7 ce_187 rfl)) (tb_7 ce_188 rfl)) (tb_7 ce_189 rfl)) (tb_7 ce_190 rfl)) (tb_7 ce_191 rfl)) (tb_7 ce_192 rfl)) (tb_7 ce_193 rfl)) (tb_7 ce_194 rfl)) (tb_7 ce_195 rfl)) (tb_7 ce_196 rfl)) (tb_7 ce_197 rfl)) (tb_7 ce_198 rfl)) (tb_7 ce_199 rfl)
set_option maxRecDepth 100000 in
theorem cin_all_225 : ∀ t, t < 225 → cin t := lt_s (lt_s (lt_s (lt_s (lt_s (lt_s (lt_s (lt_s (lt_s (lt_s (lt_s (lt_s (lt_s (lt_s (lt_s (lt_s (lt_s (lt_s (lt_s (lt_s (lt_s (lt_s (lt_s (lt_s (lt_s (cin_all_200) (tb_7 ce_200 rfl)) (tb_7 ce_201 rfl)) (tb_7 ce_202 rfl)) (tb_7 ce_203 rfl)) (tb_7 ce_204 rfl)) (tb_7 ce_205 rfl)) (tb_7 ce_206 rfl)) (tb_7 ce_207 rfl)) (tb_8 ce_208 rfl)) (tb_8 ce_209 rfl)) (tb_8 ce_210 rfl)) (tb_4 ce_211 rfl)) (tb_4 ce_212 rfl)) (tb_4 ce_213 rfl)) (tb_4 ce_214 rfl)) (tb_4 ce_215 rfl)) (tb_4 ce_216 rfl)) (tb_4 ce_217 rfl)) (tb_4 ce_218 rfl)) (tb_4 ce_219 rfl)) (tb_4 ce_220 rfl)) (tb_4 ce_221 rfl)) (tb_2 ce_222 rfl)) (tb_5 ce_223 rfl)) (tb_4 ce_224 rfl)
theorem cin_all : ∀ t, t < NM → cin t := cin_all_225
