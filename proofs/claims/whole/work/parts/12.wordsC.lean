theorem ml_X8_97 : MLv RX8 97 yX10_needKind cX10_needKind 2 (some .boolean) 1 := ⟨TBL_3 233 rfl rfl, im_X10_needKind, sl_X10_needKind, ini_RX10, cd_X10_needKind, ⟨by decide +kernel, by decide +kernel, by decide +kernel⟩, by decide⟩
theorem ml_X8_100 : MLv RX8 100 yX8_readPair cX8_readPair 3 (some .boolean) 2 := ⟨TBL_3 234 rfl rfl, im_X8_readPair, sl_X8_readPair, ini_RX8, cd_X8_readPair, ⟨by decide +kernel, by decide +kernel, by decide +kernel⟩, by decide⟩
theorem ml_X8_104 : MLv RX8 104 yX8_readChoice cX8_readChoice 2 (some .boolean) 1 := ⟨TBL_3 238 rfl rfl, im_X8_readChoice, sl_X8_readChoice, ini_RX8, cd_X8_readChoice, ⟨by decide +kernel, by decide +kernel, by decide +kernel⟩, by decide⟩
theorem ml_X8_107 : MLv RX8 107 yX8_figureOp cX8_figureOp 2 (some .int) 1 := ⟨TBL_4 2 rfl rfl, im_X8_figureOp, sl_X8_figureOp, ini_RX8, cd_X8_figureOp, ⟨by decide +kernel, by decide +kernel, by decide +kernel⟩, by decide⟩
theorem fl_X9_9 : FL RX9 9 9 2 := ⟨RX9, TX9, 8, rfl, by decide, rfl, by decide, cw9, TBL_2 10 rfl rfl, rfl⟩
theorem fl_X9_15 : FL RX9 15 9 3 := ⟨RX9, TX9, 8, rfl, by decide, rfl, by decide, cw9, TBL_2 15 rfl rfl, rfl⟩
theorem fl_X9_18 : FL RX9 18 9 4 := ⟨RX9, TX9, 8, rfl, by decide, rfl, by decide, cw9, TBL_2 20 rfl rfl, rfl⟩
theorem fl_X9_21 : FL RX9 21 9 5 := ⟨RX9, TX9, 8, rfl, by decide, rfl, by decide, cw9, TBL_2 24 rfl rfl, rfl⟩
theorem fl_X9_24 : FL RX9 24 9 6 := ⟨RX9, TX9, 8, rfl, by decide, rfl, by decide, cw9, TBL_2 27 rfl rfl, rfl⟩
theorem fl_X9_30 : FL RX9 30 9 7 := ⟨RX9, TX9, 8, rfl, by decide, rfl, by decide, cw9, TBL_2 28 rfl rfl, rfl⟩
theorem fl_X9_34 : FL RX9 34 9 0 := ⟨RX9, TX9, 8, rfl, by decide, rfl, by decide, cw9, TBL_2 3 rfl rfl, rfl⟩
theorem fl_X9_38 : FL RX9 38 9 1 := ⟨RX9, TX9, 8, rfl, by decide, rfl, by decide, cw9, TBL_2 7 rfl rfl, rfl⟩
theorem fl_X9_42 : FL RX9 42 2 11 := ⟨RX2, TX2, 19, rfl, by decide, rfl, by decide, cw2, TBL_1 84 rfl rfl, rfl⟩
theorem wc_X9_45 : WCopy RX9 45 := ⟨TBL_2 161 rfl rfl, TBL_2 163 rfl rfl, TBL_2 162 rfl rfl, TBL_1 13 rfl rfl⟩
theorem fl_X9_51 : FL RX9 51 2 12 := ⟨RX2, TX2, 19, rfl, by decide, rfl, by decide, cw2, TBL_1 87 rfl rfl, rfl⟩
theorem fl_X9_52 : FL RX9 52 2 13 := ⟨RX2, TX2, 19, rfl, by decide, rfl, by decide, cw2, TBL_1 90 rfl rfl, rfl⟩
theorem fl_X9_53 : FL RX9 53 2 14 := ⟨RX2, TX2, 19, rfl, by decide, rfl, by decide, cw2, TBL_1 93 rfl rfl, rfl⟩
theorem fl_X9_54 : FL RX9 54 2 3 := ⟨RX2, TX2, 19, rfl, by decide, rfl, by decide, cw2, TBL_1 55 rfl rfl, rfl⟩
theorem ml_X9_57 : MLv RX9 57 yX9_setBarrels cX9_setBarrels 3 none 2 := ⟨TBL_2 164 rfl rfl, im_X9_setBarrels, sl_X9_setBarrels, ini_RX9, cd_X9_setBarrels, ⟨by decide +kernel, by decide +kernel, by decide +kernel⟩, by decide⟩
theorem fl_X9_61 : FL RX9 61 2 1 := ⟨RX2, TX2, 19, rfl, by decide, rfl, by decide, cw2, TBL_1 42 rfl rfl, rfl⟩
theorem fl_X9_64 : FL RX9 64 2 2 := ⟨RX2, TX2, 19, rfl, by decide, rfl, by decide, cw2, TBL_1 49 rfl rfl, rfl⟩
theorem ml_X9_67 : MLv RX9 67 yX9_isOwner cX9_isOwner 2 (some .boolean) 1 := ⟨TBL_4 212 rfl rfl, im_X9_isOwner, sl_X9_isOwner, ini_RX9, cd_X9_isOwner, ⟨by decide +kernel, by decide +kernel, by decide +kernel⟩, by decide⟩
theorem ml_X9_71 : MLv RX9 71 yX9_isLake cX9_isLake 2 (some .boolean) 1 := ⟨TBL_4 70 rfl rfl, im_X9_isLake, sl_X9_isLake, ini_RX9, cd_X9_isLake, ⟨by decide +kernel, by decide +kernel, by decide +kernel⟩, by decide⟩
theorem fl_X9_74 : FL RX9 74 2 9 := ⟨RX2, TX2, 19, rfl, by decide, rfl, by decide, cw2, TBL_1 78 rfl rfl, rfl⟩
theorem ml_X9_77 : MLv RX9 77 yX9_stands cX9_stands 2 (some .boolean) 1 := ⟨TBL_4 66 rfl rfl, im_X9_stands, sl_X9_stands, ini_RX9, cd_X9_stands, ⟨by decide +kernel, by decide +kernel, by decide +kernel⟩, by decide⟩
theorem ml_X9_80 : MLv RX9 80 yX2_hasRule cX2_hasRule 2 (some .boolean) 1 := ⟨TBL_4 74 rfl rfl, im_X2_hasRule, sl_X2_hasRule, ini_RX2, cd_X2_hasRule, ⟨by decide +kernel, by decide +kernel, by decide +kernel⟩, by decide⟩
theorem ml_X9_83 : MLv RX9 83 yX9_countIn cX9_countIn 4 (some .int) 1 := ⟨TBL_4 75 rfl rfl, im_X9_countIn, sl_X9_countIn, ini_RX9, cd_X9_countIn, ⟨by decide +kernel, by decide +kernel, by decide +kernel⟩, by decide⟩
theorem ml_X9_87 : MLv RX9 87 yX3_setLake cX3_setLake 4 none 3 := ⟨TBL_4 79 rfl rfl, im_X3_setLake, sl_X3_setLake, ini_RX3, cd_X3_setLake, ⟨by decide +kernel, by decide +kernel, by decide +kernel⟩, by decide⟩
theorem ml_X9_91 : MLv RX9 91 yX3_run cX3_run 5 (some .int) 2 := ⟨TBL_4 83 rfl rfl, im_X3_run, sl_X3_run, ini_RX3, cd_X3_run, ⟨by decide +kernel, by decide +kernel, by decide +kernel⟩, by decide⟩
theorem ml_X9_95 : MLs RX9 95 yJ9_min_7cf53 cJ9_min_7cf53 2 (some .int) 2 := ⟨TBL_4 125 rfl rfl, sm_J9_min_7cf53, ini_RJ9, cd_J9_min_7cf53, ⟨by decide +kernel, by decide +kernel, by decide +kernel⟩, by decide⟩
theorem ml_X9_101 : MLs RX9 101 yJ9_max_7cf53 cJ9_max_7cf53 2 (some .int) 2 := ⟨TBL_4 126 rfl rfl, sm_J9_max_7cf53, ini_RJ9, cd_J9_max_7cf53, ⟨by decide +kernel, by decide +kernel, by decide +kernel⟩, by decide⟩
theorem ml_X9_104 : MLv RX9 104 yX9_worthOf cX9_worthOf 2 (some .int) 1 := ⟨TBL_4 62 rfl rfl, im_X9_worthOf, sl_X9_worthOf, ini_RX9, cd_X9_worthOf, ⟨by decide +kernel, by decide +kernel, by decide +kernel⟩, by decide⟩
theorem ml_X9_107 : MLv RX9 107 yX9_worthOfBits cX9_worthOfBits 4 (some .int) 1 := ⟨TBL_4 58 rfl rfl, im_X9_worthOfBits, sl_X9_worthOfBits, ini_RX9, cd_X9_worthOfBits, ⟨by decide +kernel, by decide +kernel, by decide +kernel⟩, by decide⟩
theorem ml_X9_110 : MLv RX9 110 yX9_lakesOf cX9_lakesOf 4 (some .int) 1 := ⟨TBL_4 194 rfl rfl, im_X9_lakesOf, sl_X9_lakesOf, ini_RX9, cd_X9_lakesOf, ⟨by decide +kernel, by decide +kernel, by decide +kernel⟩, by decide⟩
theorem ml_X9_113 : MLv RX9 113 yX3_setDrought cX3_setDrought 2 none 1 := ⟨TBL_4 178 rfl rfl, im_X3_setDrought, sl_X3_setDrought, ini_RX3, cd_X3_setDrought, ⟨by decide +kernel, by decide +kernel, by decide +kernel⟩, by decide⟩
theorem ml_X9_117 : MLv RX9 117 yX9_leakOf cX9_leakOf 3 (some .int) 2 := ⟨TBL_4 229 rfl rfl, im_X9_leakOf, sl_X9_leakOf, ini_RX9, cd_X9_leakOf, ⟨by decide +kernel, by decide +kernel, by decide +kernel⟩, by decide⟩
theorem ml_X9_120 : MLv RX9 120 yX9_isHollow cX9_isHollow 2 (some .boolean) 1 := ⟨TBL_5 225 rfl rfl, im_X9_isHollow, sl_X9_isHollow, ini_RX9, cd_X9_isHollow, ⟨by decide +kernel, by decide +kernel, by decide +kernel⟩, by decide⟩
theorem ml_X9_123 : MLv RX9 123 yX9_roomIn cX9_roomIn 4 (some .int) 1 := ⟨TBL_5 226 rfl rfl, im_X9_roomIn, sl_X9_roomIn, ini_RX9, cd_X9_roomIn, ⟨by decide +kernel, by decide +kernel, by decide +kernel⟩, by decide⟩
theorem ml_X9_126 : MLv RX9 126 yX9_mayGo cX9_mayGo 5 (some .boolean) 4 := ⟨TBL_5 227 rfl rfl, im_X9_mayGo, sl_X9_mayGo, ini_RX9, cd_X9_mayGo, ⟨by decide +kernel, by decide +kernel, by decide +kernel⟩, by decide⟩
theorem fl_X9_130 : FL RX9 130 2 5 := ⟨RX2, TX2, 19, rfl, by decide, rfl, by decide, cw2, TBL_1 65 rfl rfl, rfl⟩
theorem fl_X9_133 : FL RX9 133 2 10 := ⟨RX2, TX2, 19, rfl, by decide, rfl, by decide, cw2, TBL_1 82 rfl rfl, rfl⟩
theorem ml_X9_136 : MLs RX9 136 yJ9_abs_0f7a4 cJ9_abs_0f7a4 1 (some .int) 1 := ⟨TBL_5 79 rfl rfl, sm_J9_abs_0f7a4, ini_RJ9, cd_J9_abs_0f7a4, ⟨by decide +kernel, by decide +kernel, by decide +kernel⟩, by decide⟩
theorem ml_X9_139 : MLv RX9 139 yX3_setWay cX3_setWay 3 none 2 := ⟨TBL_5 82 rfl rfl, im_X3_setWay, sl_X3_setWay, ini_RX3, cd_X3_setWay, ⟨by decide +kernel, by decide +kernel, by decide +kernel⟩, by decide⟩
theorem ml_X9_142 : MLv RX9 142 yX9_owedTo cX9_owedTo 4 (some .int) 1 := ⟨TBL_5 136 rfl rfl, im_X9_owedTo, sl_X9_owedTo, ini_RX9, cd_X9_owedTo, ⟨by decide +kernel, by decide +kernel, by decide +kernel⟩, by decide⟩
theorem ml_X9_145 : MLv RX9 145 yX9_owedBy cX9_owedBy 4 (some .int) 1 := ⟨TBL_4 131 rfl rfl, im_X9_owedBy, sl_X9_owedBy, ini_RX9, cd_X9_owedBy, ⟨by decide +kernel, by decide +kernel, by decide +kernel⟩, by decide⟩
theorem fl_X10_9 : FL RX10 9 10 0 := ⟨RX10, TX10, 9, rfl, by decide, rfl, by decide, cw10, TBL_1 157 rfl rfl, rfl⟩
theorem fl_X10_15 : FL RX10 15 10 1 := ⟨RX10, TX10, 9, rfl, by decide, rfl, by decide, cw10, TBL_1 158 rfl rfl, rfl⟩
theorem fl_X10_19 : FL RX10 19 10 2 := ⟨RX10, TX10, 9, rfl, by decide, rfl, by decide, cw10, TBL_1 159 rfl rfl, rfl⟩
theorem fl_X10_22 : FL RX10 22 10 3 := ⟨RX10, TX10, 9, rfl, by decide, rfl, by decide, cw10, TBL_1 160 rfl rfl, rfl⟩
theorem ml_X10_25 : MLv RX10 25 yX10_advance cX10_advance 3 (some .boolean) 0 := ⟨TBL_3 25 rfl rfl, im_X10_advance, sl_X10_advance, ini_RX10, cd_X10_advance, ⟨by decide +kernel, by decide +kernel, by decide +kernel⟩, by decide⟩
theorem fl_X10_29 : FL RX10 29 10 6 := ⟨RX10, TX10, 9, rfl, by decide, rfl, by decide, cw10, TBL_1 165 rfl rfl, rfl⟩
theorem ml_X10_32 : MLv RX10 32 yX10_isSign cX10_isSign 2 (some .boolean) 1 := ⟨TBL_3 220 rfl rfl, im_X10_isSign, sl_X10_isSign, ini_RX10, cd_X10_isSign, ⟨by decide +kernel, by decide +kernel, by decide +kernel⟩, by decide⟩
theorem ml_X10_36 : MLv RX10 36 yX10_failForm cX10_failForm 1 (some .boolean) 0 := ⟨TBL_3 108 rfl rfl, im_X10_failForm, sl_X10_failForm, ini_RX10, cd_X10_failForm, ⟨by decide +kernel, by decide +kernel, by decide +kernel⟩, by decide⟩
theorem ml_X10_39 : MLv RX10 39 yX10_isOwn cX10_isOwn 2 (some .boolean) 1 := ⟨TBL_3 145 rfl rfl, im_X10_isOwn, sl_X10_isOwn, ini_RX10, cd_X10_isOwn, ⟨by decide +kernel, by decide +kernel, by decide +kernel⟩, by decide⟩
theorem fl_X10_42 : FL RX10 42 10 7 := ⟨RX10, TX10, 9, rfl, by decide, rfl, by decide, cw10, TBL_1 169 rfl rfl, rfl⟩
theorem fl_X10_45 : FL RX10 45 10 4 := ⟨RX10, TX10, 9, rfl, by decide, rfl, by decide, cw10, TBL_1 163 rfl rfl, rfl⟩
theorem fl_X10_48 : FL RX10 48 10 8 := ⟨RX10, TX10, 9, rfl, by decide, rfl, by decide, cw10, TBL_1 171 rfl rfl, rfl⟩
theorem fl_X10_51 : FL RX10 51 10 5 := ⟨RX10, TX10, 9, rfl, by decide, rfl, by decide, cw10, TBL_1 164 rfl rfl, rfl⟩
theorem ml_X10_54 : MLv RX10 54 yX10_isText cX10_isText 1 (some .boolean) 0 := ⟨TBL_3 29 rfl rfl, im_X10_isText, sl_X10_isText, ini_RX10, cd_X10_isText, ⟨by decide +kernel, by decide +kernel, by decide +kernel⟩, by decide⟩
theorem ml_X10_57 : MLs RX10 57 yX10_isLetter cX10_isLetter 1 (some .boolean) 1 := ⟨TBL_3 33 rfl rfl, sm_X10_isLetter, ini_RX10, cd_X10_isLetter, ⟨by decide +kernel, by decide +kernel, by decide +kernel⟩, by decide⟩
theorem ml_X10_60 : MLv RX10 60 yX10_readWord cX10_readWord 3 none 0 := ⟨TBL_3 36 rfl rfl, im_X10_readWord, sl_X10_readWord, ini_RX10, cd_X10_readWord, ⟨by decide +kernel, by decide +kernel, by decide +kernel⟩, by decide⟩
theorem ml_X10_63 : MLs RX10 63 yX10_isDigit cX10_isDigit 1 (some .boolean) 1 := ⟨TBL_3 89 rfl rfl, sm_X10_isDigit, ini_RX10, cd_X10_isDigit, ⟨by decide +kernel, by decide +kernel, by decide +kernel⟩, by decide⟩
theorem ml_X10_66 : MLv RX10 66 yX10_readNumber cX10_readNumber 2 none 0 := ⟨TBL_3 92 rfl rfl, im_X10_readNumber, sl_X10_readNumber, ini_RX10, cd_X10_readNumber, ⟨by decide +kernel, by decide +kernel, by decide +kernel⟩, by decide⟩
theorem ml_X10_69 : MLv RX10 69 yX10_findOwn cX10_findOwn 5 (some .int) 1 := ⟨TBL_3 40 rfl rfl, im_X10_findOwn, sl_X10_findOwn, ini_RX10, cd_X10_findOwn, ⟨by decide +kernel, by decide +kernel, by decide +kernel⟩, by decide⟩
theorem ml_X10_73 : MLv RX10 73 yX10_packName cX10_packName 4 (some .int) 1 := ⟨TBL_3 85 rfl rfl, im_X10_packName, sl_X10_packName, ini_RX10, cd_X10_packName, ⟨by decide +kernel, by decide +kernel, by decide +kernel⟩, by decide⟩
theorem ml_X10_78 : MLv RX10 78 yJ0_charAt_5068e cJ0_charAt_5068e 2 (some .char) 1 := ⟨TBL_3 45 rfl rfl, im_J0_charAt_5068e, sl_J0_charAt_5068e, ini_RJ0, cd_J0_charAt_5068e, ⟨by decide +kernel, by decide +kernel, by decide +kernel⟩, by decide⟩
theorem ml_L_13 : MLv RL 13 yX11_feed cX11_feed 6 (some .int) 5 := ⟨TBL_2 226 rfl rfl, im_X11_feed, sl_X11_feed, ini_RX11, cd_X11_feed, ⟨by decide +kernel, by decide +kernel, by decide +kernel⟩, by decide⟩
theorem ml_L_17 : MLv RL 17 yX12_feed cX12_feed 6 (some .int) 5 := ⟨TBL_7 96 rfl rfl, im_X12_feed, sl_X12_feed, ini_RX12, cd_X12_feed, ⟨by decide +kernel, by decide +kernel, by decide +kernel⟩, by decide⟩
theorem ml_L_18 : MLv RL 18 yX11_end cX11_end 2 (some .boolean) 1 := ⟨TBL_2 238 rfl rfl, im_X11_end, sl_X11_end, ini_RX11, cd_X11_end, ⟨by decide +kernel, by decide +kernel, by decide +kernel⟩, by decide⟩
theorem ml_L_22 : MLv RL 22 yX12_end cX12_end 2 (some .boolean) 1 := ⟨TBL_7 108 rfl rfl, im_X12_end, sl_X12_end, ini_RX12, cd_X12_end, ⟨by decide +kernel, by decide +kernel, by decide +kernel⟩, by decide⟩
theorem ml_L_23 : MLv RL 23 yX11_lowland cX11_lowland 3 (some .int) 0 := ⟨TBL_3 2 rfl rfl, im_X11_lowland, sl_X11_lowland, ini_RX11, cd_X11_lowland, ⟨by decide +kernel, by decide +kernel, by decide +kernel⟩, by decide⟩
theorem ml_L_27 : MLv RL 27 yX12_lowland cX12_lowland 2 (some .int) 0 := ⟨TBL_7 112 rfl rfl, im_X12_lowland, sl_X12_lowland, ini_RX12, cd_X12_lowland, ⟨by decide +kernel, by decide +kernel, by decide +kernel⟩, by decide⟩
theorem ml_L_28 : MLv RL 28 yX11_fault cX11_fault 2 (some .int) 1 := ⟨TBL_4 38 rfl rfl, im_X11_fault, sl_X11_fault, ini_RX11, cd_X11_fault, ⟨by decide +kernel, by decide +kernel, by decide +kernel⟩, by decide⟩
theorem ml_L_32 : MLv RL 32 yX12_fault cX12_fault 2 (some .int) 1 := ⟨TBL_8 51 rfl rfl, im_X12_fault, sl_X12_fault, ini_RX12, cd_X12_fault, ⟨by decide +kernel, by decide +kernel, by decide +kernel⟩, by decide⟩
theorem ml_L_33 : MLv RL 33 yX11_has cX11_has 2 (some .int) 1 := ⟨TBL_4 42 rfl rfl, im_X11_has, sl_X11_has, ini_RX11, cd_X11_has, ⟨by decide +kernel, by decide +kernel, by decide +kernel⟩, by decide⟩
theorem ml_L_36 : MLv RL 36 yX12_has cX12_has 4 (some .int) 1 := ⟨TBL_8 71 rfl rfl, im_X12_has, sl_X12_has, ini_RX12, cd_X12_has, ⟨by decide +kernel, by decide +kernel, by decide +kernel⟩, by decide⟩
theorem ml_L_37 : MLv RL 37 yX11_letter cX11_letter 4 (some .int) 3 := ⟨TBL_4 140 rfl rfl, im_X11_letter, sl_X11_letter, ini_RX11, cd_X11_letter, ⟨by decide +kernel, by decide +kernel, by decide +kernel⟩, by decide⟩
theorem ml_L_41 : MLv RL 41 yX12_letter cX12_letter 9 (some .int) 3 := ⟨TBL_8 131 rfl rfl, im_X12_letter, sl_X12_letter, ini_RX12, cd_X12_letter, ⟨by decide +kernel, by decide +kernel, by decide +kernel⟩, by decide⟩
theorem ml_L_42 : MLv RL 42 yX11_hollow cX11_hollow 3 (some .int) 2 := ⟨TBL_4 157 rfl rfl, im_X11_hollow, sl_X11_hollow, ini_RX11, cd_X11_hollow, ⟨by decide +kernel, by decide +kernel, by decide +kernel⟩, by decide⟩
theorem ml_L_46 : MLv RL 46 yX12_hollow cX12_hollow 5 (some .int) 2 := ⟨TBL_8 136 rfl rfl, im_X12_hollow, sl_X12_hollow, ini_RX12, cd_X12_hollow, ⟨by decide +kernel, by decide +kernel, by decide +kernel⟩, by decide⟩
theorem ml_L_47 : MLv RL 47 yX11_lake cX11_lake 3 (some .int) 2 := ⟨TBL_4 169 rfl rfl, im_X11_lake, sl_X11_lake, ini_RX11, cd_X11_lake, ⟨by decide +kernel, by decide +kernel, by decide +kernel⟩, by decide⟩
theorem ml_L_50 : MLv RL 50 yX12_lake cX12_lake 3 (some .int) 2 := ⟨TBL_8 148 rfl rfl, im_X12_lake, sl_X12_lake, ini_RX12, cd_X12_lake, ⟨by decide +kernel, by decide +kernel, by decide +kernel⟩, by decide⟩
theorem ml_L_51 : MLv RL 51 yX11_owner cX11_owner 3 (some .int) 2 := ⟨TBL_4 182 rfl rfl, im_X11_owner, sl_X11_owner, ini_RX11, cd_X11_owner, ⟨by decide +kernel, by decide +kernel, by decide +kernel⟩, by decide⟩
theorem ml_L_54 : MLv RL 54 yX12_owner cX12_owner 3 (some .int) 2 := ⟨TBL_8 164 rfl rfl, im_X12_owner, sl_X12_owner, ini_RX12, cd_X12_owner, ⟨by decide +kernel, by decide +kernel, by decide +kernel⟩, by decide⟩
theorem ml_L_55 : MLv RL 55 yX11_owes cX11_owes 3 (some .int) 2 := ⟨TBL_4 204 rfl rfl, im_X11_owes, sl_X11_owes, ini_RX11, cd_X11_owes, ⟨by decide +kernel, by decide +kernel, by decide +kernel⟩, by decide⟩
theorem ml_L_58 : MLv RL 58 yX12_owes cX12_owes 3 (some .int) 2 := ⟨TBL_8 180 rfl rfl, im_X12_owes, sl_X12_owes, ini_RX12, cd_X12_owes, ⟨by decide +kernel, by decide +kernel, by decide +kernel⟩, by decide⟩
theorem ml_L_59 : MLv RL 59 yX11_later cX11_later 4 (some .int) 2 := ⟨TBL_4 213 rfl rfl, im_X11_later, sl_X11_later, ini_RX11, cd_X11_later, ⟨by decide +kernel, by decide +kernel, by decide +kernel⟩, by decide⟩
theorem ml_L_62 : MLv RL 62 yX12_later cX12_later 4 (some .int) 2 := ⟨TBL_8 184 rfl rfl, im_X12_later, sl_X12_later, ini_RX12, cd_X12_later, ⟨by decide +kernel, by decide +kernel, by decide +kernel⟩, by decide⟩
theorem ml_L_63 : MLv RL 63 yX11_broke cX11_broke 3 (some .int) 1 := ⟨TBL_4 230 rfl rfl, im_X11_broke, sl_X11_broke, ini_RX11, cd_X11_broke, ⟨by decide +kernel, by decide +kernel, by decide +kernel⟩, by decide⟩
theorem ml_L_66 : MLv RL 66 yX12_broke cX12_broke 3 (some .int) 1 := ⟨TBL_8 200 rfl rfl, im_X12_broke, sl_X12_broke, ini_RX12, cd_X12_broke, ⟨by decide +kernel, by decide +kernel, by decide +kernel⟩, by decide⟩
theorem ml_L_67 : MLv RL 67 yX11_spend cX11_spend 7 (some .int) 2 := ⟨TBL_4 234 rfl rfl, im_X11_spend, sl_X11_spend, ini_RX11, cd_X11_spend, ⟨by decide +kernel, by decide +kernel, by decide +kernel⟩, by decide⟩
theorem ml_L_70 : MLv RL 70 yX12_spend cX12_spend 6 (some .int) 2 := ⟨TBL_8 204 rfl rfl, im_X12_spend, sl_X12_spend, ini_RX12, cd_X12_spend, ⟨by decide +kernel, by decide +kernel, by decide +kernel⟩, by decide⟩
theorem ml_L_71 : MLv RL 71 yX11_price cX11_price 5 (some .int) 3 := ⟨TBL_4 239 rfl rfl, im_X11_price, sl_X11_price, ini_RX11, cd_X11_price, ⟨by decide +kernel, by decide +kernel, by decide +kernel⟩, by decide⟩
theorem ml_L_74 : MLv RL 74 yX12_price cX12_price 9 (some .int) 3 := ⟨TBL_8 208 rfl rfl, im_X12_price, sl_X12_price, ini_RX12, cd_X12_price, ⟨by decide +kernel, by decide +kernel, by decide +kernel⟩, by decide⟩
theorem ml_L_75 : MLv RL 75 yX11_moves cX11_moves 2 (some .int) 0 := ⟨TBL_5 30 rfl rfl, im_X11_moves, sl_X11_moves, ini_RX11, cd_X11_moves, ⟨by decide +kernel, by decide +kernel, by decide +kernel⟩, by decide⟩
theorem ml_L_78 : MLv RL 78 yX12_moves cX12_moves 4 (some .int) 0 := ⟨TBL_8 216 rfl rfl, im_X12_moves, sl_X12_moves, ini_RX12, cd_X12_moves, ⟨by decide +kernel, by decide +kernel, by decide +kernel⟩, by decide⟩
theorem ml_L_79 : MLv RL 79 yX11_pack cX11_pack 4 (some .int) 2 := ⟨TBL_5 108 rfl rfl, im_X11_pack, sl_X11_pack, ini_RX11, cd_X11_pack, ⟨by decide +kernel, by decide +kernel, by decide +kernel⟩, by decide⟩
theorem ml_L_82 : MLv RL 82 yX12_pack cX12_pack 11 (some .int) 2 := ⟨TBL_9 0 rfl rfl, im_X12_pack, sl_X12_pack, ini_RX12, cd_X12_pack, ⟨by decide +kernel, by decide +kernel, by decide +kernel⟩, by decide⟩
theorem ml_L_83 : MLv RL 83 yX11_net cX11_net 2 (some .int) 1 := ⟨TBL_5 128 rfl rfl, im_X11_net, sl_X11_net, ini_RX11, cd_X11_net, ⟨by decide +kernel, by decide +kernel, by decide +kernel⟩, by decide⟩
theorem ml_L_86 : MLv RL 86 yX12_net cX12_net 2 (some .int) 1 := ⟨TBL_9 7 rfl rfl, im_X12_net, sl_X12_net, ini_RX12, cd_X12_net, ⟨by decide +kernel, by decide +kernel, by decide +kernel⟩, by decide⟩
theorem ml_L_87 : MLv RL 87 yX11_settling cX11_settling 1 (some .int) 0 := ⟨TBL_5 138 rfl rfl, im_X11_settling, sl_X11_settling, ini_RX11, cd_X11_settling, ⟨by decide +kernel, by decide +kernel, by decide +kernel⟩, by decide⟩
theorem ml_L_90 : MLv RL 90 yX12_settling cX12_settling 6 (some .int) 0 := ⟨TBL_9 16 rfl rfl, im_X12_settling, sl_X12_settling, ini_RX12, cd_X12_settling, ⟨by decide +kernel, by decide +kernel, by decide +kernel⟩, by decide⟩
theorem ml_L_91 : MLv RL 91 yX11_share cX11_share 4 (some .int) 3 := ⟨TBL_5 152 rfl rfl, im_X11_share, sl_X11_share, ini_RX11, cd_X11_share, ⟨by decide +kernel, by decide +kernel, by decide +kernel⟩, by decide⟩
theorem ml_L_94 : MLv RL 94 yX12_share cX12_share 9 (some .int) 3 := ⟨TBL_9 20 rfl rfl, im_X12_share, sl_X12_share, ini_RX12, cd_X12_share, ⟨by decide +kernel, by decide +kernel, by decide +kernel⟩, by decide⟩
theorem ml_L_95 : MLv RL 95 yX11_stood cX11_stood 3 (some .int) 0 := ⟨TBL_5 173 rfl rfl, im_X11_stood, sl_X11_stood, ini_RX11, cd_X11_stood, ⟨by decide +kernel, by decide +kernel, by decide +kernel⟩, by decide⟩
theorem ml_L_98 : MLv RL 98 yX12_stood cX12_stood 4 (some .int) 0 := ⟨TBL_9 28 rfl rfl, im_X12_stood, sl_X12_stood, ini_RX12, cd_X12_stood, ⟨by decide +kernel, by decide +kernel, by decide +kernel⟩, by decide⟩
theorem ml_L_99 : MLv RL 99 yX11_robbed cX11_robbed 4 (some .int) 1 := ⟨TBL_5 181 rfl rfl, im_X11_robbed, sl_X11_robbed, ini_RX11, cd_X11_robbed, ⟨by decide +kernel, by decide +kernel, by decide +kernel⟩, by decide⟩
theorem ml_L_102 : MLv RL 102 yX12_robbed cX12_robbed 5 (some .int) 1 := ⟨TBL_9 36 rfl rfl, im_X12_robbed, sl_X12_robbed, ini_RX12, cd_X12_robbed, ⟨by decide +kernel, by decide +kernel, by decide +kernel⟩, by decide⟩
theorem ml_L_103 : MLv RL 103 yX11_nights cX11_nights 4 (some .int) 1 := ⟨TBL_5 190 rfl rfl, im_X11_nights, sl_X11_nights, ini_RX11, cd_X11_nights, ⟨by decide +kernel, by decide +kernel, by decide +kernel⟩, by decide⟩
theorem ml_L_106 : MLv RL 106 yX12_nights cX12_nights 4 (some .int) 1 := ⟨TBL_9 44 rfl rfl, im_X12_nights, sl_X12_nights, ini_RX12, cd_X12_nights, ⟨by decide +kernel, by decide +kernel, by decide +kernel⟩, by decide⟩
theorem ml_L_107 : MLv RL 107 yX11_chance cX11_chance 5 (some .int) 1 := ⟨TBL_5 207 rfl rfl, im_X11_chance, sl_X11_chance, ini_RX11, cd_X11_chance, ⟨by decide +kernel, by decide +kernel, by decide +kernel⟩, by decide⟩
theorem ml_L_110 : MLv RL 110 yX12_chance cX12_chance 5 (some .int) 1 := ⟨TBL_9 52 rfl rfl, im_X12_chance, sl_X12_chance, ini_RX12, cd_X12_chance, ⟨by decide +kernel, by decide +kernel, by decide +kernel⟩, by decide⟩
theorem ml_L_111 : MLv RL 111 yX11_move cX11_move 3 (some .boolean) 2 := ⟨TBL_5 217 rfl rfl, im_X11_move, sl_X11_move, ini_RX11, cd_X11_move, ⟨by decide +kernel, by decide +kernel, by decide +kernel⟩, by decide⟩
theorem ml_L_115 : MLv RL 115 yX12_move cX12_move 3 (some .boolean) 2 := ⟨TBL_9 64 rfl rfl, im_X12_move, sl_X12_move, ini_RX12, cd_X12_move, ⟨by decide +kernel, by decide +kernel, by decide +kernel⟩, by decide⟩
theorem ml_L_116 : MLv RL 116 yX11_pour cX11_pour 3 (some .int) 2 := ⟨TBL_5 228 rfl rfl, im_X11_pour, sl_X11_pour, ini_RX11, cd_X11_pour, ⟨by decide +kernel, by decide +kernel, by decide +kernel⟩, by decide⟩
theorem ml_L_119 : MLv RL 119 yX12_pour cX12_pour 4 (some .int) 2 := ⟨TBL_9 68 rfl rfl, im_X12_pour, sl_X12_pour, ini_RX12, cd_X12_pour, ⟨by decide +kernel, by decide +kernel, by decide +kernel⟩, by decide⟩
theorem ml_L_120 : MLv RL 120 yX11_part cX11_part 4 (some .int) 2 := ⟨TBL_5 237 rfl rfl, im_X11_part, sl_X11_part, ini_RX11, cd_X11_part, ⟨by decide +kernel, by decide +kernel, by decide +kernel⟩, by decide⟩
theorem ml_L_123 : MLv RL 123 yX12_part cX12_part 4 (some .int) 2 := ⟨TBL_9 72 rfl rfl, im_X12_part, sl_X12_part, ini_RX12, cd_X12_part, ⟨by decide +kernel, by decide +kernel, by decide +kernel⟩, by decide⟩
theorem ml_L_124 : MLv RL 124 yX11_pay cX11_pay 7 (some .int) 3 := ⟨TBL_6 5 rfl rfl, im_X11_pay, sl_X11_pay, ini_RX11, cd_X11_pay, ⟨by decide +kernel, by decide +kernel, by decide +kernel⟩, by decide⟩
theorem ml_L_127 : MLv RL 127 yX12_pay cX12_pay 7 (some .int) 3 := ⟨TBL_9 76 rfl rfl, im_X12_pay, sl_X12_pay, ini_RX12, cd_X12_pay, ⟨by decide +kernel, by decide +kernel, by decide +kernel⟩, by decide⟩
theorem ml_L_128 : MLv RL 128 yX11_strike cX11_strike 4 (some .int) 0 := ⟨TBL_6 18 rfl rfl, im_X11_strike, sl_X11_strike, ini_RX11, cd_X11_strike, ⟨by decide +kernel, by decide +kernel, by decide +kernel⟩, by decide⟩
theorem ml_L_131 : MLv RL 131 yX12_strike cX12_strike 7 (some .int) 0 := ⟨TBL_9 84 rfl rfl, im_X12_strike, sl_X12_strike, ini_RX12, cd_X12_strike, ⟨by decide +kernel, by decide +kernel, by decide +kernel⟩, by decide⟩
theorem ml_L_132 : MLv RL 132 yX11_undo cX11_undo 1 (some .boolean) 0 := ⟨TBL_6 31 rfl rfl, im_X11_undo, sl_X11_undo, ini_RX11, cd_X11_undo, ⟨by decide +kernel, by decide +kernel, by decide +kernel⟩, by decide⟩
theorem ml_L_136 : MLv RL 136 yX12_undo cX12_undo 1 (some .boolean) 0 := ⟨TBL_8 59 rfl rfl, im_X12_undo, sl_X12_undo, ini_RX12, cd_X12_undo, ⟨by decide +kernel, by decide +kernel, by decide +kernel⟩, by decide⟩
theorem ml_L_137 : MLv RL 137 yX11_seed cX11_seed 2 (some .boolean) 1 := ⟨TBL_6 43 rfl rfl, im_X11_seed, sl_X11_seed, ini_RX11, cd_X11_seed, ⟨by decide +kernel, by decide +kernel, by decide +kernel⟩, by decide⟩
theorem ml_L_140 : MLv RL 140 yX12_seed cX12_seed 2 (some .boolean) 1 := ⟨TBL_9 88 rfl rfl, im_X12_seed, sl_X12_seed, ini_RX12, cd_X12_seed, ⟨by decide +kernel, by decide +kernel, by decide +kernel⟩, by decide⟩
theorem ml_L_141 : MLv RL 141 yX11_kept cX11_kept 3 (some .int) 2 := ⟨TBL_6 47 rfl rfl, im_X11_kept, sl_X11_kept, ini_RX11, cd_X11_kept, ⟨by decide +kernel, by decide +kernel, by decide +kernel⟩, by decide⟩
theorem ml_L_144 : MLv RL 144 yX12_kept cX12_kept 3 (some .int) 2 := ⟨TBL_9 92 rfl rfl, im_X12_kept, sl_X12_kept, ini_RX12, cd_X12_kept, ⟨by decide +kernel, by decide +kernel, by decide +kernel⟩, by decide⟩
theorem ml_L_145 : MLv RL 145 yX11_image cX11_image 1 (some .int) 0 := ⟨TBL_6 56 rfl rfl, im_X11_image, sl_X11_image, ini_RX11, cd_X11_image, ⟨by decide +kernel, by decide +kernel, by decide +kernel⟩, by decide⟩
theorem ml_L_148 : MLv RL 148 yX12_image cX12_image 3 (some .int) 0 := ⟨TBL_9 96 rfl rfl, im_X12_image, sl_X12_image, ini_RX12, cd_X12_image, ⟨by decide +kernel, by decide +kernel, by decide +kernel⟩, by decide⟩
theorem ml_L_149 : MLv RL 149 yX11_octet cX11_octet 2 (some .int) 1 := ⟨TBL_6 76 rfl rfl, im_X11_octet, sl_X11_octet, ini_RX11, cd_X11_octet, ⟨by decide +kernel, by decide +kernel, by decide +kernel⟩, by decide⟩
theorem ml_L_152 : MLv RL 152 yX12_octet cX12_octet 2 (some .int) 1 := ⟨TBL_9 108 rfl rfl, im_X12_octet, sl_X12_octet, ini_RX12, cd_X12_octet, ⟨by decide +kernel, by decide +kernel, by decide +kernel⟩, by decide⟩
theorem ml_L_153 : MLv RL 153 yX11_on cX11_on 2 (some .boolean) 0 := ⟨TBL_6 80 rfl rfl, im_X11_on, sl_X11_on, ini_RX11, cd_X11_on, ⟨by decide +kernel, by decide +kernel, by decide +kernel⟩, by decide⟩
theorem ml_L_156 : MLv RL 156 yX12_on cX12_on 2 (some .boolean) 0 := ⟨TBL_9 112 rfl rfl, im_X12_on, sl_X12_on, ini_RX12, cd_X12_on, ⟨by decide +kernel, by decide +kernel, by decide +kernel⟩, by decide⟩
theorem ml_L_157 : MLv RL 157 yX11_status cX11_status 2 (some .int) 1 := ⟨TBL_6 109 rfl rfl, im_X11_status, sl_X11_status, ini_RX11, cd_X11_status, ⟨by decide +kernel, by decide +kernel, by decide +kernel⟩, by decide⟩
theorem ml_L_160 : MLv RL 160 yX12_status cX12_status 2 (some .int) 1 := ⟨TBL_8 55 rfl rfl, im_X12_status, sl_X12_status, ini_RX12, cd_X12_status, ⟨by decide +kernel, by decide +kernel, by decide +kernel⟩, by decide⟩
theorem fl_X12_7 : FL RX12 7 12 0 := ⟨RX12, TX12, 71, rfl, by decide, rfl, by decide, cw12, TBL_6 120 rfl rfl, rfl⟩
theorem fl_X12_13 : FL RX12 13 12 1 := ⟨RX12, TX12, 71, rfl, by decide, rfl, by decide, cw12, TBL_6 121 rfl rfl, rfl⟩
theorem fl_X12_17 : FL RX12 17 12 2 := ⟨RX12, TX12, 71, rfl, by decide, rfl, by decide, cw12, TBL_6 122 rfl rfl, rfl⟩
theorem fl_X12_20 : FL RX12 20 12 3 := ⟨RX12, TX12, 71, rfl, by decide, rfl, by decide, cw12, TBL_6 123 rfl rfl, rfl⟩
theorem fl_X12_23 : FL RX12 23 12 4 := ⟨RX12, TX12, 71, rfl, by decide, rfl, by decide, cw12, TBL_6 124 rfl rfl, rfl⟩
theorem fl_X12_26 : FL RX12 26 12 5 := ⟨RX12, TX12, 71, rfl, by decide, rfl, by decide, cw12, TBL_6 125 rfl rfl, rfl⟩
theorem fl_X12_29 : FL RX12 29 12 6 := ⟨RX12, TX12, 71, rfl, by decide, rfl, by decide, cw12, TBL_6 126 rfl rfl, rfl⟩
theorem fl_X12_32 : FL RX12 32 12 7 := ⟨RX12, TX12, 71, rfl, by decide, rfl, by decide, cw12, TBL_6 127 rfl rfl, rfl⟩
theorem fl_X12_36 : FL RX12 36 12 8 := ⟨RX12, TX12, 71, rfl, by decide, rfl, by decide, cw12, TBL_6 128 rfl rfl, rfl⟩
theorem fl_X12_39 : FL RX12 39 12 9 := ⟨RX12, TX12, 71, rfl, by decide, rfl, by decide, cw12, TBL_6 129 rfl rfl, rfl⟩
theorem fl_X12_42 : FL RX12 42 12 10 := ⟨RX12, TX12, 71, rfl, by decide, rfl, by decide, cw12, TBL_6 130 rfl rfl, rfl⟩
theorem fl_X12_45 : FL RX12 45 12 11 := ⟨RX12, TX12, 71, rfl, by decide, rfl, by decide, cw12, TBL_6 131 rfl rfl, rfl⟩
theorem fl_X12_48 : FL RX12 48 12 12 := ⟨RX12, TX12, 71, rfl, by decide, rfl, by decide, cw12, TBL_6 132 rfl rfl, rfl⟩
theorem fl_X12_51 : FL RX12 51 12 13 := ⟨RX12, TX12, 71, rfl, by decide, rfl, by decide, cw12, TBL_6 133 rfl rfl, rfl⟩
theorem fl_X12_54 : FL RX12 54 12 14 := ⟨RX12, TX12, 71, rfl, by decide, rfl, by decide, cw12, TBL_6 134 rfl rfl, rfl⟩
theorem fl_X12_57 : FL RX12 57 12 15 := ⟨RX12, TX12, 71, rfl, by decide, rfl, by decide, cw12, TBL_6 135 rfl rfl, rfl⟩
theorem fl_X12_60 : FL RX12 60 12 16 := ⟨RX12, TX12, 71, rfl, by decide, rfl, by decide, cw12, TBL_6 136 rfl rfl, rfl⟩
theorem fl_X12_63 : FL RX12 63 12 17 := ⟨RX12, TX12, 71, rfl, by decide, rfl, by decide, cw12, TBL_6 137 rfl rfl, rfl⟩
theorem fl_X12_66 : FL RX12 66 12 18 := ⟨RX12, TX12, 71, rfl, by decide, rfl, by decide, cw12, TBL_6 138 rfl rfl, rfl⟩
theorem fl_X12_69 : FL RX12 69 12 19 := ⟨RX12, TX12, 71, rfl, by decide, rfl, by decide, cw12, TBL_6 139 rfl rfl, rfl⟩
theorem fl_X12_72 : FL RX12 72 12 20 := ⟨RX12, TX12, 71, rfl, by decide, rfl, by decide, cw12, TBL_6 140 rfl rfl, rfl⟩
theorem fl_X12_75 : FL RX12 75 12 21 := ⟨RX12, TX12, 71, rfl, by decide, rfl, by decide, cw12, TBL_6 141 rfl rfl, rfl⟩
theorem fl_X12_78 : FL RX12 78 12 22 := ⟨RX12, TX12, 71, rfl, by decide, rfl, by decide, cw12, TBL_6 142 rfl rfl, rfl⟩
theorem fl_X12_81 : FL RX12 81 12 23 := ⟨RX12, TX12, 71, rfl, by decide, rfl, by decide, cw12, TBL_6 143 rfl rfl, rfl⟩
theorem fl_X12_84 : FL RX12 84 12 24 := ⟨RX12, TX12, 71, rfl, by decide, rfl, by decide, cw12, TBL_6 144 rfl rfl, rfl⟩
theorem fl_X12_87 : FL RX12 87 12 25 := ⟨RX12, TX12, 71, rfl, by decide, rfl, by decide, cw12, TBL_6 145 rfl rfl, rfl⟩
theorem fl_X12_90 : FL RX12 90 12 26 := ⟨RX12, TX12, 71, rfl, by decide, rfl, by decide, cw12, TBL_6 146 rfl rfl, rfl⟩
theorem fl_X12_93 : FL RX12 93 12 27 := ⟨RX12, TX12, 71, rfl, by decide, rfl, by decide, cw12, TBL_6 147 rfl rfl, rfl⟩
theorem fl_X12_96 : FL RX12 96 12 28 := ⟨RX12, TX12, 71, rfl, by decide, rfl, by decide, cw12, TBL_6 148 rfl rfl, rfl⟩
theorem fl_X12_99 : FL RX12 99 12 29 := ⟨RX12, TX12, 71, rfl, by decide, rfl, by decide, cw12, TBL_6 149 rfl rfl, rfl⟩
theorem fl_X12_103 : FL RX12 103 12 30 := ⟨RX12, TX12, 71, rfl, by decide, rfl, by decide, cw12, TBL_6 150 rfl rfl, rfl⟩
theorem fl_X12_106 : FL RX12 106 12 31 := ⟨RX12, TX12, 71, rfl, by decide, rfl, by decide, cw12, TBL_6 151 rfl rfl, rfl⟩
theorem fl_X12_109 : FL RX12 109 12 32 := ⟨RX12, TX12, 71, rfl, by decide, rfl, by decide, cw12, TBL_6 152 rfl rfl, rfl⟩
theorem fl_X12_112 : FL RX12 112 12 33 := ⟨RX12, TX12, 71, rfl, by decide, rfl, by decide, cw12, TBL_6 153 rfl rfl, rfl⟩
theorem fl_X12_115 : FL RX12 115 12 34 := ⟨RX12, TX12, 71, rfl, by decide, rfl, by decide, cw12, TBL_6 154 rfl rfl, rfl⟩
theorem fl_X12_118 : FL RX12 118 12 35 := ⟨RX12, TX12, 71, rfl, by decide, rfl, by decide, cw12, TBL_6 155 rfl rfl, rfl⟩
theorem fl_X12_121 : FL RX12 121 12 36 := ⟨RX12, TX12, 71, rfl, by decide, rfl, by decide, cw12, TBL_6 156 rfl rfl, rfl⟩
theorem fl_X12_124 : FL RX12 124 12 37 := ⟨RX12, TX12, 71, rfl, by decide, rfl, by decide, cw12, TBL_6 157 rfl rfl, rfl⟩
theorem fl_X12_128 : FL RX12 128 12 38 := ⟨RX12, TX12, 71, rfl, by decide, rfl, by decide, cw12, TBL_6 158 rfl rfl, rfl⟩
theorem fl_X12_131 : FL RX12 131 12 39 := ⟨RX12, TX12, 71, rfl, by decide, rfl, by decide, cw12, TBL_6 159 rfl rfl, rfl⟩
theorem fl_X12_134 : FL RX12 134 12 40 := ⟨RX12, TX12, 71, rfl, by decide, rfl, by decide, cw12, TBL_6 160 rfl rfl, rfl⟩
theorem fl_X12_137 : FL RX12 137 12 41 := ⟨RX12, TX12, 71, rfl, by decide, rfl, by decide, cw12, TBL_6 161 rfl rfl, rfl⟩
theorem fl_X12_140 : FL RX12 140 12 42 := ⟨RX12, TX12, 71, rfl, by decide, rfl, by decide, cw12, TBL_6 162 rfl rfl, rfl⟩
theorem fl_X12_143 : FL RX12 143 12 43 := ⟨RX12, TX12, 71, rfl, by decide, rfl, by decide, cw12, TBL_6 163 rfl rfl, rfl⟩
theorem fl_X12_146 : FL RX12 146 12 44 := ⟨RX12, TX12, 71, rfl, by decide, rfl, by decide, cw12, TBL_6 164 rfl rfl, rfl⟩
theorem fl_X12_150 : FL RX12 150 12 45 := ⟨RX12, TX12, 71, rfl, by decide, rfl, by decide, cw12, TBL_6 165 rfl rfl, rfl⟩
theorem fl_X12_153 : FL RX12 153 12 46 := ⟨RX12, TX12, 71, rfl, by decide, rfl, by decide, cw12, TBL_6 166 rfl rfl, rfl⟩
theorem fl_X12_156 : FL RX12 156 12 47 := ⟨RX12, TX12, 71, rfl, by decide, rfl, by decide, cw12, TBL_6 167 rfl rfl, rfl⟩
theorem fl_X12_159 : FL RX12 159 12 48 := ⟨RX12, TX12, 71, rfl, by decide, rfl, by decide, cw12, TBL_6 168 rfl rfl, rfl⟩
theorem fl_X12_162 : FL RX12 162 12 49 := ⟨RX12, TX12, 71, rfl, by decide, rfl, by decide, cw12, TBL_6 169 rfl rfl, rfl⟩
theorem fl_X12_165 : FL RX12 165 12 50 := ⟨RX12, TX12, 71, rfl, by decide, rfl, by decide, cw12, TBL_6 170 rfl rfl, rfl⟩
theorem fl_X12_168 : FL RX12 168 12 51 := ⟨RX12, TX12, 71, rfl, by decide, rfl, by decide, cw12, TBL_6 171 rfl rfl, rfl⟩
theorem fl_X12_171 : FL RX12 171 12 52 := ⟨RX12, TX12, 71, rfl, by decide, rfl, by decide, cw12, TBL_6 172 rfl rfl, rfl⟩
theorem fl_X12_174 : FL RX12 174 12 53 := ⟨RX12, TX12, 71, rfl, by decide, rfl, by decide, cw12, TBL_6 173 rfl rfl, rfl⟩
theorem fl_X12_177 : FL RX12 177 12 54 := ⟨RX12, TX12, 71, rfl, by decide, rfl, by decide, cw12, TBL_6 174 rfl rfl, rfl⟩
theorem fl_X12_180 : FL RX12 180 12 55 := ⟨RX12, TX12, 71, rfl, by decide, rfl, by decide, cw12, TBL_6 175 rfl rfl, rfl⟩
theorem fl_X12_183 : FL RX12 183 12 56 := ⟨RX12, TX12, 71, rfl, by decide, rfl, by decide, cw12, TBL_6 176 rfl rfl, rfl⟩
theorem fl_X12_186 : FL RX12 186 12 57 := ⟨RX12, TX12, 71, rfl, by decide, rfl, by decide, cw12, TBL_6 177 rfl rfl, rfl⟩
theorem fl_X12_189 : FL RX12 189 12 58 := ⟨RX12, TX12, 71, rfl, by decide, rfl, by decide, cw12, TBL_6 178 rfl rfl, rfl⟩
theorem fl_X12_192 : FL RX12 192 12 59 := ⟨RX12, TX12, 71, rfl, by decide, rfl, by decide, cw12, TBL_6 179 rfl rfl, rfl⟩
theorem fl_X12_195 : FL RX12 195 12 60 := ⟨RX12, TX12, 71, rfl, by decide, rfl, by decide, cw12, TBL_6 180 rfl rfl, rfl⟩
theorem kc_X12_198 : Cond.constant RX12 198 (65536) ∈ TBL := TBL_6 119 rfl rfl
theorem fl_X12_199 : FL RX12 199 12 61 := ⟨RX12, TX12, 71, rfl, by decide, rfl, by decide, cw12, TBL_6 181 rfl rfl, rfl⟩
theorem fl_X12_202 : FL RX12 202 12 62 := ⟨RX12, TX12, 71, rfl, by decide, rfl, by decide, cw12, TBL_6 182 rfl rfl, rfl⟩
theorem fl_X12_205 : FL RX12 205 12 63 := ⟨RX12, TX12, 71, rfl, by decide, rfl, by decide, cw12, TBL_6 183 rfl rfl, rfl⟩
theorem fl_X12_208 : FL RX12 208 12 64 := ⟨RX12, TX12, 71, rfl, by decide, rfl, by decide, cw12, TBL_6 184 rfl rfl, rfl⟩
theorem fl_X12_211 : FL RX12 211 12 65 := ⟨RX12, TX12, 71, rfl, by decide, rfl, by decide, cw12, TBL_6 185 rfl rfl, rfl⟩
theorem fl_X12_214 : FL RX12 214 12 66 := ⟨RX12, TX12, 71, rfl, by decide, rfl, by decide, cw12, TBL_6 186 rfl rfl, rfl⟩
theorem fl_X12_217 : FL RX12 217 12 67 := ⟨RX12, TX12, 71, rfl, by decide, rfl, by decide, cw12, TBL_6 187 rfl rfl, rfl⟩
theorem fl_X12_220 : FL RX12 220 12 68 := ⟨RX12, TX12, 71, rfl, by decide, rfl, by decide, cw12, TBL_6 188 rfl rfl, rfl⟩
theorem fl_X12_223 : FL RX12 223 12 69 := ⟨RX12, TX12, 71, rfl, by decide, rfl, by decide, cw12, TBL_6 189 rfl rfl, rfl⟩
theorem fl_X12_226 : FL RX12 226 12 70 := ⟨RX12, TX12, 71, rfl, by decide, rfl, by decide, cw12, TBL_6 190 rfl rfl, rfl⟩
theorem ml_X12_229 : MLv RX12 229 yX12_refuses cX12_refuses 2 (some .int) 1 := ⟨TBL_7 100 rfl rfl, im_X12_refuses, sl_X12_refuses, ini_RX12, cd_X12_refuses, ⟨by decide +kernel, by decide +kernel, by decide +kernel⟩, by decide⟩
theorem ml_X12_233 : MLv RX12 233 yX12_put cX12_put 3 none 1 := ⟨TBL_7 104 rfl rfl, im_X12_put, sl_X12_put, ini_RX12, cd_X12_put, ⟨by decide +kernel, by decide +kernel, by decide +kernel⟩, by decide⟩
theorem ml_X12_237 : MLv RX12 237 yX12_blame cX12_blame 3 none 2 := ⟨TBL_7 163 rfl rfl, im_X12_blame, sl_X12_blame, ini_RX12, cd_X12_blame, ⟨by decide +kernel, by decide +kernel, by decide +kernel⟩, by decide⟩
theorem ml_X12_241 : MLs RX12 241 yX12_isLetter cX12_isLetter 1 (some .boolean) 1 := ⟨TBL_7 120 rfl rfl, sm_X12_isLetter, ini_RX12, cd_X12_isLetter, ⟨by decide +kernel, by decide +kernel, by decide +kernel⟩, by decide⟩
theorem ml_X12_245 : MLs RX12 245 yX12_isDigit cX12_isDigit 1 (some .boolean) 1 := ⟨TBL_7 123 rfl rfl, sm_X12_isDigit, ini_RX12, cd_X12_isDigit, ⟨by decide +kernel, by decide +kernel, by decide +kernel⟩, by decide⟩
theorem ml_X12_248 : MLv RX12 248 yX12_isOwn cX12_isOwn 3 (some .boolean) 1 := ⟨TBL_7 126 rfl rfl, im_X12_isOwn, sl_X12_isOwn, ini_RX12, cd_X12_isOwn, ⟨by decide +kernel, by decide +kernel, by decide +kernel⟩, by decide⟩
theorem ml_X12_252 : MLv RX12 252 yX12_lex cX12_lex 1 none 0 := ⟨TBL_7 159 rfl rfl, im_X12_lex, sl_X12_lex, ini_RX12, cd_X12_lex, ⟨by decide +kernel, by decide +kernel, by decide +kernel⟩, by decide⟩
theorem ml_X12_255 : MLv RX12 255 yX12_isSign cX12_isSign 2 (some .boolean) 1 := ⟨TBL_8 12 rfl rfl, im_X12_isSign, sl_X12_isSign, ini_RX12, cd_X12_isSign, ⟨by decide +kernel, by decide +kernel, by decide +kernel⟩, by decide⟩
theorem ml_X12_258 : MLv RX12 258 yX12_ahead cX12_ahead 6 none 0 := ⟨TBL_7 116 rfl rfl, im_X12_ahead, sl_X12_ahead, ini_RX12, cd_X12_ahead, ⟨by decide +kernel, by decide +kernel, by decide +kernel⟩, by decide⟩
theorem kc_X12_261 : Cond.constantLong RX12 261 (114827769704311) ∈ TBL := TBL_7 130 rfl rfl
theorem kc_X12_263 : Cond.constantLong RX12 263 (448545973363) ∈ TBL := TBL_7 131 rfl rfl
theorem kc_X12_265 : Cond.constantLong RX12 265 (24948) ∈ TBL := TBL_7 132 rfl rfl
theorem kc_X12_267 : Cond.constantLong RX12 267 (478745093490) ∈ TBL := TBL_7 133 rfl rfl
theorem kc_X12_269 : Cond.constantLong RX12 269 (1818323813) ∈ TBL := TBL_7 134 rfl rfl
theorem kc_X12_271 : Cond.constantLong RX12 271 (6840691) ∈ TBL := TBL_7 135 rfl rfl
theorem kc_X12_273 : Cond.constantLong RX12 273 (26990) ∈ TBL := TBL_7 136 rfl rfl
theorem kc_X12_275 : Cond.constantLong RX12 275 (28518) ∈ TBL := TBL_7 137 rfl rfl
theorem kc_X12_277 : Cond.constantLong RX12 277 (1870095731) ∈ TBL := TBL_7 138 rfl rfl
theorem kc_X12_279 : Cond.constantLong RX12 279 (465557351283) ∈ TBL := TBL_7 139 rfl rfl
theorem kc_X12_281 : Cond.constantLong RX12 281 (512970880104) ∈ TBL := TBL_7 140 rfl rfl
theorem kc_X12_283 : Cond.constantLong RX12 283 (7168377) ∈ TBL := TBL_7 141 rfl rfl
theorem kc_X12_285 : Cond.constantLong RX12 285 (426836653171) ∈ TBL := TBL_7 142 rfl rfl
theorem kc_X12_287 : Cond.constantLong RX12 287 (474214787188) ∈ TBL := TBL_7 143 rfl rfl
theorem kc_X12_289 : Cond.constantLong RX12 289 (108187867505765) ∈ TBL := TBL_7 144 rfl rfl
theorem kc_X12_291 : Cond.constantLong RX12 291 (495874044019) ∈ TBL := TBL_7 145 rfl rfl
theorem kc_X12_293 : Cond.constantLong RX12 293 (1718773093) ∈ TBL := TBL_7 146 rfl rfl
theorem kc_X12_295 : Cond.constantLong RX12 295 (26982) ∈ TBL := TBL_7 147 rfl rfl
theorem kc_X12_297 : Cond.constantLong RX12 297 (28530) ∈ TBL := TBL_7 148 rfl rfl
theorem kc_X12_299 : Cond.constantLong RX12 299 (6385252) ∈ TBL := TBL_7 149 rfl rfl
theorem kc_X12_301 : Cond.constantLong RX12 301 (7237492) ∈ TBL := TBL_7 150 rfl rfl
theorem kc_X12_303 : Cond.constantLong RX12 303 (6384748) ∈ TBL := TBL_7 151 rfl rfl
theorem kc_X12_305 : Cond.constantLong RX12 305 (7170414) ∈ TBL := TBL_7 152 rfl rfl
theorem kc_X12_307 : Cond.constantLong RX12 307 (7168376) ∈ TBL := TBL_7 153 rfl rfl
theorem kc_X12_309 : Cond.constantLong RX12 309 (28273320707713140) ∈ TBL := TBL_7 154 rfl rfl
theorem ml_X12_311 : MLv RX12 311 yX12_manyOf cX12_manyOf 3 (some .int) 2 := ⟨TBL_7 187 rfl rfl, im_X12_manyOf, sl_X12_manyOf, ini_RX12, cd_X12_manyOf, ⟨by decide +kernel, by decide +kernel, by decide +kernel⟩, by decide⟩
theorem ml_X12_315 : MLv RX12 315 yX12_nameOf cX12_nameOf 4 (some .long) 3 := ⟨TBL_7 191 rfl rfl, im_X12_nameOf, sl_X12_nameOf, ini_RX12, cd_X12_nameOf, ⟨by decide +kernel, by decide +kernel, by decide +kernel⟩, by decide⟩
theorem ml_X12_319 : MLs RX12 319 yX12_is cX12_is 3 (some .boolean) 3 := ⟨TBL_7 203 rfl rfl, sm_X12_is, ini_RX12, cd_X12_is, ⟨by decide +kernel, by decide +kernel, by decide +kernel⟩, by decide⟩
theorem ml_X12_323 : MLs RX12 323 yX12_rank cX12_rank 1 (some .int) 1 := ⟨TBL_8 32 rfl rfl, sm_X12_rank, ini_RX12, cd_X12_rank, ⟨by decide +kernel, by decide +kernel, by decide +kernel⟩, by decide⟩
theorem ml_X12_326 : MLv RX12 326 yX12_add cX12_add 3 none 2 := ⟨TBL_8 20 rfl rfl, im_X12_add, sl_X12_add, ini_RX12, cd_X12_add, ⟨by decide +kernel, by decide +kernel, by decide +kernel⟩, by decide⟩
theorem ml_X12_329 : MLv RX12 329 yX12_pushes cX12_pushes 2 none 1 := ⟨TBL_7 237 rfl rfl, im_X12_pushes, sl_X12_pushes, ini_RX12, cd_X12_pushes, ⟨by decide +kernel, by decide +kernel, by decide +kernel⟩, by decide⟩
theorem ml_X12_332 : MLs RX12 332 yX12_isTest cX12_isTest 1 (some .boolean) 1 := ⟨TBL_8 5 rfl rfl, sm_X12_isTest, ini_RX12, cd_X12_isTest, ⟨by decide +kernel, by decide +kernel, by decide +kernel⟩, by decide⟩
theorem ml_X12_335 : MLv RX12 335 yX12_isWord cX12_isWord 3 (some .boolean) 1 := ⟨TBL_7 167 rfl rfl, im_X12_isWord, sl_X12_isWord, ini_RX12, cd_X12_isWord, ⟨by decide +kernel, by decide +kernel, by decide +kernel⟩, by decide⟩
theorem ml_X12_338 : MLv RX12 338 yX12_holdsBack cX12_holdsBack 2 none 1 := ⟨TBL_8 8 rfl rfl, im_X12_holdsBack, sl_X12_holdsBack, ini_RX12, cd_X12_holdsBack, ⟨by decide +kernel, by decide +kernel, by decide +kernel⟩, by decide⟩
theorem ml_X12_341 : MLv RX12 341 yX12_opens cX12_opens 2 none 1 := ⟨TBL_8 16 rfl rfl, im_X12_opens, sl_X12_opens, ini_RX12, cd_X12_opens, ⟨by decide +kernel, by decide +kernel, by decide +kernel⟩, by decide⟩
theorem ml_X12_344 : MLv RX12 344 yX12_joins cX12_joins 2 none 1 := ⟨TBL_8 28 rfl rfl, im_X12_joins, sl_X12_joins, ini_RX12, cd_X12_joins, ⟨by decide +kernel, by decide +kernel, by decide +kernel⟩, by decide⟩
theorem ml_X12_347 : MLv RX12 347 yX12_operand cX12_operand 4 (some .boolean) 0 := ⟨TBL_8 1 rfl rfl, im_X12_operand, sl_X12_operand, ini_RX12, cd_X12_operand, ⟨by decide +kernel, by decide +kernel, by decide +kernel⟩, by decide⟩
theorem ml_X12_350 : MLv RX12 350 yX12_goesOn cX12_goesOn 5 (some .boolean) 0 := ⟨TBL_8 24 rfl rfl, im_X12_goesOn, sl_X12_goesOn, ini_RX12, cd_X12_goesOn, ⟨by decide +kernel, by decide +kernel, by decide +kernel⟩, by decide⟩
theorem ml_X12_353 : MLv RX12 353 yX12_named cX12_named 5 (some .int) 2 := ⟨TBL_7 183 rfl rfl, im_X12_named, sl_X12_named, ini_RX12, cd_X12_named, ⟨by decide +kernel, by decide +kernel, by decide +kernel⟩, by decide⟩
theorem ml_X12_357 : MLs RX12 357 yX12_has2 cX12_has2 2 (some .boolean) 2 := ⟨TBL_7 222 rfl rfl, sm_X12_has2, ini_RX12, cd_X12_has2, ⟨by decide +kernel, by decide +kernel, by decide +kernel⟩, by decide⟩
theorem ml_X12_361 : MLv RX12 361 yX12_counts cX12_counts 2 (some .boolean) 1 := ⟨TBL_7 175 rfl rfl, im_X12_counts, sl_X12_counts, ini_RX12, cd_X12_counts, ⟨by decide +kernel, by decide +kernel, by decide +kernel⟩, by decide⟩
theorem ml_X12_365 : MLv RX12 365 yX12_fresh cX12_fresh 3 (some .long) 0 := ⟨TBL_7 179 rfl rfl, im_X12_fresh, sl_X12_fresh, ini_RX12, cd_X12_fresh, ⟨by decide +kernel, by decide +kernel, by decide +kernel⟩, by decide⟩
theorem ml_X12_369 : MLv RX12 369 yX12_must_ cX12_must_ 3 none 1 := ⟨TBL_7 195 rfl rfl, im_X12_must_, sl_X12_must_, ini_RX12, cd_X12_must_, ⟨by decide +kernel, by decide +kernel, by decide +kernel⟩, by decide⟩
theorem ml_X12_373 : MLv RX12 373 yX12_number cX12_number 4 (some .int) 2 := ⟨TBL_7 199 rfl rfl, im_X12_number, sl_X12_number, ini_RX12, cd_X12_number, ⟨by decide +kernel, by decide +kernel, by decide +kernel⟩, by decide⟩
theorem ml_X12_376 : MLv RX12 376 yX12_without cX12_without 6 (some .int) 1 := ⟨TBL_7 214 rfl rfl, im_X12_without, sl_X12_without, ini_RX12, cd_X12_without, ⟨by decide +kernel, by decide +kernel, by decide +kernel⟩, by decide⟩
theorem ml_X12_379 : MLv RX12 379 yX12_askedBut cX12_askedBut 4 (some .int) 2 := ⟨TBL_7 218 rfl rfl, im_X12_askedBut, sl_X12_askedBut, ini_RX12, cd_X12_askedBut, ⟨by decide +kernel, by decide +kernel, by decide +kernel⟩, by decide⟩
theorem ml_X12_382 : MLv RX12 382 yX12_reads cX12_reads 3 none 1 := ⟨TBL_7 233 rfl rfl, im_X12_reads, sl_X12_reads, ini_RX12, cd_X12_reads, ⟨by decide +kernel, by decide +kernel, by decide +kernel⟩, by decide⟩
theorem ml_X12_386 : MLv RX12 386 yX12_hollowing cX12_hollowing 2 none 0 := ⟨TBL_7 171 rfl rfl, im_X12_hollowing, sl_X12_hollowing, ini_RX12, cd_X12_hollowing, ⟨by decide +kernel, by decide +kernel, by decide +kernel⟩, by decide⟩
theorem ml_X12_389 : MLv RX12 389 yX12_owning cX12_owning 3 none 0 := ⟨TBL_7 206 rfl rfl, im_X12_owning, sl_X12_owning, ini_RX12, cd_X12_owning, ⟨by decide +kernel, by decide +kernel, by decide +kernel⟩, by decide⟩
theorem ml_X12_392 : MLv RX12 392 yX12_laking cX12_laking 2 none 0 := ⟨TBL_7 210 rfl rfl, im_X12_laking, sl_X12_laking, ini_RX12, cd_X12_laking, ⟨by decide +kernel, by decide +kernel, by decide +kernel⟩, by decide⟩
theorem ml_X12_395 : MLv RX12 395 yX12_owing cX12_owing 4 none 0 := ⟨TBL_7 225 rfl rfl, im_X12_owing, sl_X12_owing, ini_RX12, cd_X12_owing, ⟨by decide +kernel, by decide +kernel, by decide +kernel⟩, by decide⟩
theorem ml_X12_398 : MLv RX12 398 yX12_reading cX12_reading 3 none 1 := ⟨TBL_7 229 rfl rfl, im_X12_reading, sl_X12_reading, ini_RX12, cd_X12_reading, ⟨by decide +kernel, by decide +kernel, by decide +kernel⟩, by decide⟩
theorem ml_X12_401 : MLv RX12 401 yX12_telling cX12_telling 3 none 1 := ⟨TBL_8 35 rfl rfl, im_X12_telling, sl_X12_telling, ini_RX12, cd_X12_telling, ⟨by decide +kernel, by decide +kernel, by decide +kernel⟩, by decide⟩
theorem ml_X12_404 : MLv RX12 404 yX12_must cX12_must 2 none 1 := ⟨TBL_8 43 rfl rfl, im_X12_must, sl_X12_must, ini_RX12, cd_X12_must, ⟨by decide +kernel, by decide +kernel, by decide +kernel⟩, by decide⟩
theorem ml_X12_406 : MLv RX12 406 yX12_statement cX12_statement 1 none 0 := ⟨TBL_7 155 rfl rfl, im_X12_statement, sl_X12_statement, ini_RX12, cd_X12_statement, ⟨by decide +kernel, by decide +kernel, by decide +kernel⟩, by decide⟩
theorem ml_X12_409 : MLv RX12 409 yX12_finishes cX12_finishes 3 none 1 := ⟨TBL_8 39 rfl rfl, im_X12_finishes, sl_X12_finishes, ini_RX12, cd_X12_finishes, ⟨by decide +kernel, by decide +kernel, by decide +kernel⟩, by decide⟩
theorem ml_X12_412 : MLv RX12 412 yX12_begin cX12_begin 3 none 0 := ⟨TBL_8 47 rfl rfl, im_X12_begin, sl_X12_begin, ini_RX12, cd_X12_begin, ⟨by decide +kernel, by decide +kernel, by decide +kernel⟩, by decide⟩
theorem ml_X12_415 : MLv RX12 415 yX12_slot cX12_slot 2 (some .int) 1 := ⟨TBL_8 63 rfl rfl, im_X12_slot, sl_X12_slot, ini_RX12, cd_X12_slot, ⟨by decide +kernel, by decide +kernel, by decide +kernel⟩, by decide⟩
theorem ml_X12_418 : MLv RX12 418 yX12_copies cX12_copies 4 none 2 := ⟨TBL_8 67 rfl rfl, im_X12_copies, sl_X12_copies, ini_RX12, cd_X12_copies, ⟨by decide +kernel, by decide +kernel, by decide +kernel⟩, by decide⟩
theorem kc_X12_421 : Cond.constantLong RX12 421 (1000000) ∈ TBL := TBL_8 117 rfl rfl
theorem kc_X12_423 : Cond.constantLong RX12 423 (-1000000) ∈ TBL := TBL_8 118 rfl rfl
theorem ml_X12_425 : MLs RX12 425 yX12_held cX12_held 2 (some .long) 1 := ⟨TBL_8 114 rfl rfl, sm_X12_held, ini_RX12, cd_X12_held, ⟨by decide +kernel, by decide +kernel, by decide +kernel⟩, by decide⟩
theorem ml_X12_429 : MLs RX12 429 yX12_floor cX12_floor 6 (some .long) 2 := ⟨TBL_8 119 rfl rfl, sm_X12_floor, ini_RX12, cd_X12_floor, ⟨by decide +kernel, by decide +kernel, by decide +kernel⟩, by decide⟩
theorem ml_X12_433 : MLs RX12 433 yX12_two cX12_two 5 (some .long) 3 := ⟨TBL_8 111 rfl rfl, sm_X12_two, ini_RX12, cd_X12_two, ⟨by decide +kernel, by decide +kernel, by decide +kernel⟩, by decide⟩
theorem ml_X12_437 : MLv RX12 437 yX12_liesIn cX12_liesIn 3 (some .int) 2 := ⟨TBL_8 95 rfl rfl, im_X12_liesIn, sl_X12_liesIn, ini_RX12, cd_X12_liesIn, ⟨by decide +kernel, by decide +kernel, by decide +kernel⟩, by decide⟩
theorem ml_X12_440 : MLv RX12 440 yX12_fill cX12_fill 3 (some .int) 2 := ⟨TBL_8 75 rfl rfl, im_X12_fill, sl_X12_fill, ini_RX12, cd_X12_fill, ⟨by decide +kernel, by decide +kernel, by decide +kernel⟩, by decide⟩
theorem ml_X12_443 : MLv RX12 443 yX12_beside cX12_beside 6 (some .int) 3 := ⟨TBL_8 103 rfl rfl, im_X12_beside, sl_X12_beside, ini_RX12, cd_X12_beside, ⟨by decide +kernel, by decide +kernel, by decide +kernel⟩, by decide⟩
theorem ml_X12_447 : MLv RX12 447 yX12_isTold cX12_isTold 2 (some .boolean) 1 := ⟨TBL_8 91 rfl rfl, im_X12_isTold, sl_X12_isTold, ini_RX12, cd_X12_isTold, ⟨by decide +kernel, by decide +kernel, by decide +kernel⟩, by decide⟩
theorem ml_X12_450 : MLv RX12 450 yX12_asks cX12_asks 4 none 3 := ⟨TBL_8 99 rfl rfl, im_X12_asks, sl_X12_asks, ini_RX12, cd_X12_asks, ⟨by decide +kernel, by decide +kernel, by decide +kernel⟩, by decide⟩
theorem ml_X12_454 : MLv RX12 454 yX12_reckons cX12_reckons 5 (some .long) 1 := ⟨TBL_8 107 rfl rfl, im_X12_reckons, sl_X12_reckons, ini_RX12, cd_X12_reckons, ⟨by decide +kernel, by decide +kernel, by decide +kernel⟩, by decide⟩
theorem kc_X12_458 : Cond.constantLong RX12 458 (9999) ∈ TBL := TBL_8 122 rfl rfl
theorem ml_X12_460 : MLv RX12 460 yX12_room cX12_room 5 (some .int) 2 := ⟨TBL_8 144 rfl rfl, im_X12_room, sl_X12_room, ini_RX12, cd_X12_room, ⟨by decide +kernel, by decide +kernel, by decide +kernel⟩, by decide⟩
theorem ml_X12_463 : MLv RX12 463 yX12_steps cX12_steps 3 (some .int) 2 := ⟨TBL_8 236 rfl rfl, im_X12_steps, sl_X12_steps, ini_RX12, cd_X12_steps, ⟨by decide +kernel, by decide +kernel, by decide +kernel⟩, by decide⟩
theorem ml_X12_466 : MLv RX12 466 yX12_leaking cX12_leaking 6 (some .int) 3 := ⟨TBL_8 160 rfl rfl, im_X12_leaking, sl_X12_leaking, ini_RX12, cd_X12_leaking, ⟨by decide +kernel, by decide +kernel, by decide +kernel⟩, by decide⟩
theorem ml_X12_470 : MLv RX12 470 yX12_sets cX12_sets 5 none 3 := ⟨TBL_8 196 rfl rfl, im_X12_sets, sl_X12_sets, ini_RX12, cd_X12_sets, ⟨by decide +kernel, by decide +kernel, by decide +kernel⟩, by decide⟩
theorem ml_X12_473 : MLv RX12 473 yX12_ownerOf cX12_ownerOf 3 (some .int) 2 := ⟨TBL_8 156 rfl rfl, im_X12_ownerOf, sl_X12_ownerOf, ini_RX12, cd_X12_ownerOf, ⟨by decide +kernel, by decide +kernel, by decide +kernel⟩, by decide⟩
theorem ml_X12_476 : MLv RX12 476 yX12_worth cX12_worth 5 (some .int) 2 := ⟨TBL_8 87 rfl rfl, im_X12_worth, sl_X12_worth, ini_RX12, cd_X12_worth, ⟨by decide +kernel, by decide +kernel, by decide +kernel⟩, by decide⟩
theorem ml_X12_479 : MLv RX12 479 yX12_debt cX12_debt 3 (some .int) 2 := ⟨TBL_8 127 rfl rfl, im_X12_debt, sl_X12_debt, ini_RX12, cd_X12_debt, ⟨by decide +kernel, by decide +kernel, by decide +kernel⟩, by decide⟩
theorem ml_X12_482 : MLv RX12 482 yX12_owed cX12_owed 5 (some .int) 2 := ⟨TBL_8 123 rfl rfl, im_X12_owed, sl_X12_owed, ini_RX12, cd_X12_owed, ⟨by decide +kernel, by decide +kernel, by decide +kernel⟩, by decide⟩
theorem ml_X12_486 : MLv RX12 486 yX12_lakesOf cX12_lakesOf 5 (some .int) 2 := ⟨TBL_8 172 rfl rfl, im_X12_lakesOf, sl_X12_lakesOf, ini_RX12, cd_X12_lakesOf, ⟨by decide +kernel, by decide +kernel, by decide +kernel⟩, by decide⟩
theorem ml_X12_489 : MLv RX12 489 yX12_worthOf cX12_worthOf 5 (some .int) 2 := ⟨TBL_8 83 rfl rfl, im_X12_worthOf, sl_X12_worthOf, ini_RX12, cd_X12_worthOf, ⟨by decide +kernel, by decide +kernel, by decide +kernel⟩, by decide⟩
theorem ml_X12_492 : MLv RX12 492 yX12_allLakes cX12_allLakes 1 (some .int) 0 := ⟨TBL_8 79 rfl rfl, im_X12_allLakes, sl_X12_allLakes, ini_RX12, cd_X12_allLakes, ⟨by decide +kernel, by decide +kernel, by decide +kernel⟩, by decide⟩
theorem kc_X12_496 : Cond.constantLong RX12 496 (255) ∈ TBL := TBL_8 135 rfl rfl
theorem ml_X12_498 : MLv RX12 498 yX12_isHollow cX12_isHollow 2 (some .boolean) 1 := ⟨TBL_8 140 rfl rfl, im_X12_isHollow, sl_X12_isHollow, ini_RX12, cd_X12_isHollow, ⟨by decide +kernel, by decide +kernel, by decide +kernel⟩, by decide⟩
theorem ml_X12_501 : MLv RX12 501 yX12_isLake cX12_isLake 2 (some .boolean) 1 := ⟨TBL_8 152 rfl rfl, im_X12_isLake, sl_X12_isLake, ini_RX12, cd_X12_isLake, ⟨by decide +kernel, by decide +kernel, by decide +kernel⟩, by decide⟩
theorem ml_X12_504 : MLv RX12 504 yX12_isOwner cX12_isOwner 2 (some .boolean) 1 := ⟨TBL_8 168 rfl rfl, im_X12_isOwner, sl_X12_isOwner, ini_RX12, cd_X12_isOwner, ⟨by decide +kernel, by decide +kernel, by decide +kernel⟩, by decide⟩
theorem ml_X12_507 : MLv RX12 507 yX12_isBroke cX12_isBroke 3 (some .boolean) 2 := ⟨TBL_8 176 rfl rfl, im_X12_isBroke, sl_X12_isBroke, ini_RX12, cd_X12_isBroke, ⟨by decide +kernel, by decide +kernel, by decide +kernel⟩, by decide⟩
theorem ml_X12_510 : MLv RX12 510 yX12_isAhead cX12_isAhead 3 (some .boolean) 2 := ⟨TBL_8 188 rfl rfl, im_X12_isAhead, sl_X12_isAhead, ini_RX12, cd_X12_isAhead, ⟨by decide +kernel, by decide +kernel, by decide +kernel⟩, by decide⟩
theorem ml_X12_513 : MLv RX12 513 yX12_passes cX12_passes 5 (some .int) 2 := ⟨TBL_8 192 rfl rfl, im_X12_passes, sl_X12_passes, ini_RX12, cd_X12_passes, ⟨by decide +kernel, by decide +kernel, by decide +kernel⟩, by decide⟩
theorem kc_X12_516 : Cond.constant RX12 516 (100000000) ∈ TBL := TBL_8 212 rfl rfl
theorem ml_X12_517 : MLs RX12 517 yX12_bits cX12_bits 3 (some .int) 1 := ⟨TBL_8 213 rfl rfl, sm_X12_bits, ini_RX12, cd_X12_bits, ⟨by decide +kernel, by decide +kernel, by decide +kernel⟩, by decide⟩
theorem ml_X12_520 : MLv RX12 520 yX12_astray cX12_astray 4 (some .int) 1 := ⟨TBL_8 224 rfl rfl, im_X12_astray, sl_X12_astray, ini_RX12, cd_X12_astray, ⟨by decide +kernel, by decide +kernel, by decide +kernel⟩, by decide⟩
theorem ml_X12_523 : MLv RX12 523 yX12_canMove cX12_canMove 4 (some .boolean) 3 := ⟨TBL_8 232 rfl rfl, im_X12_canMove, sl_X12_canMove, ini_RX12, cd_X12_canMove, ⟨by decide +kernel, by decide +kernel, by decide +kernel⟩, by decide⟩
theorem ml_X12_526 : MLv RX12 526 yX12_movesNext cX12_movesNext 7 (some .boolean) 2 := ⟨TBL_8 228 rfl rfl, im_X12_movesNext, sl_X12_movesNext, ini_RX12, cd_X12_movesNext, ⟨by decide +kernel, by decide +kernel, by decide +kernel⟩, by decide⟩
theorem ml_X12_529 : MLv RX12 529 yX12_isEnough cX12_isEnough 3 (some .boolean) 1 := ⟨TBL_8 220 rfl rfl, im_X12_isEnough, sl_X12_isEnough, ini_RX12, cd_X12_isEnough, ⟨by decide +kernel, by decide +kernel, by decide +kernel⟩, by decide⟩
theorem ml_X12_532 : MLs RX12 532 yX12_lowest cX12_lowest 2 (some .int) 1 := ⟨TBL_9 4 rfl rfl, sm_X12_lowest, ini_RX12, cd_X12_lowest, ⟨by decide +kernel, by decide +kernel, by decide +kernel⟩, by decide⟩
theorem ml_X12_535 : MLv RX12 535 yX12_netOf cX12_netOf 2 (some .int) 1 := ⟨TBL_9 11 rfl rfl, im_X12_netOf, sl_X12_netOf, ini_RX12, cd_X12_netOf, ⟨by decide +kernel, by decide +kernel, by decide +kernel⟩, by decide⟩
theorem kc_X12_538 : Cond.constant RX12 538 (-1000000000) ∈ TBL := TBL_9 15 rfl rfl
theorem ml_X12_539 : MLv RX12 539 yX12_apart cX12_apart 8 (some .int) 3 := ⟨TBL_9 24 rfl rfl, im_X12_apart, sl_X12_apart, ini_RX12, cd_X12_apart, ⟨by decide +kernel, by decide +kernel, by decide +kernel⟩, by decide⟩
theorem ml_X12_542 : MLv RX12 542 yX12_twoBytes cX12_twoBytes 2 (some .int) 1 := ⟨TBL_9 32 rfl rfl, im_X12_twoBytes, sl_X12_twoBytes, ini_RX12, cd_X12_twoBytes, ⟨by decide +kernel, by decide +kernel, by decide +kernel⟩, by decide⟩
theorem ml_X12_545 : MLv RX12 545 yX12_isAsStood cX12_isAsStood 2 (some .boolean) 0 := ⟨TBL_9 40 rfl rfl, im_X12_isAsStood, sl_X12_isAsStood, ini_RX12, cd_X12_isAsStood, ⟨by decide +kernel, by decide +kernel, by decide +kernel⟩, by decide⟩
theorem ml_X12_548 : MLv RX12 548 yX12_keeps cX12_keeps 1 none 0 := ⟨TBL_9 48 rfl rfl, im_X12_keeps, sl_X12_keeps, ini_RX12, cd_X12_keeps, ⟨by decide +kernel, by decide +kernel, by decide +kernel⟩, by decide⟩
theorem kc_X12_551 : Cond.constantLong RX12 551 (1103515245) ∈ TBL := TBL_9 60 rfl rfl
theorem kc_X12_553 : Cond.constantLong RX12 553 (12345) ∈ TBL := TBL_9 61 rfl rfl
theorem kc_X12_555 : Cond.constantLong RX12 555 (2147483648) ∈ TBL := TBL_9 62 rfl rfl
theorem kc_X12_557 : Cond.constantLong RX12 557 (64) ∈ TBL := TBL_9 63 rfl rfl
theorem ml_X12_559 : MLv RX12 559 yX12_draw cX12_draw 2 (some .int) 1 := ⟨TBL_9 56 rfl rfl, im_X12_draw, sl_X12_draw, ini_RX12, cd_X12_draw, ⟨by decide +kernel, by decide +kernel, by decide +kernel⟩, by decide⟩
theorem ml_X12_562 : MLv RX12 562 yX12_writesDown cX12_writesDown 5 none 3 := ⟨TBL_9 80 rfl rfl, im_X12_writesDown, sl_X12_writesDown, ini_RX12, cd_X12_writesDown, ⟨by decide +kernel, by decide +kernel, by decide +kernel⟩, by decide⟩
theorem ml_X12_565 : MLv RX12 565 yX12_writes cX12_writes 2 none 1 := ⟨TBL_9 104 rfl rfl, im_X12_writes, sl_X12_writes, ini_RX12, cd_X12_writes, ⟨by decide +kernel, by decide +kernel, by decide +kernel⟩, by decide⟩
theorem ml_X12_568 : MLv RX12 568 yX12_writesTwo cX12_writesTwo 2 none 1 := ⟨TBL_9 100 rfl rfl, im_X12_writesTwo, sl_X12_writesTwo, ini_RX12, cd_X12_writesTwo, ⟨by decide +kernel, by decide +kernel, by decide +kernel⟩, by decide⟩
theorem ml_X12_571 : MLv RX12 571 yX12_lakeOn cX12_lakeOn 6 (some .boolean) 2 := ⟨TBL_9 120 rfl rfl, im_X12_lakeOn, sl_X12_lakeOn, ini_RX12, cd_X12_lakeOn, ⟨by decide +kernel, by decide +kernel, by decide +kernel⟩, by decide⟩
theorem ml_X12_574 : MLv RX12 574 yX12_comesOn cX12_comesOn 8 (some .boolean) 1 := ⟨TBL_9 116 rfl rfl, im_X12_comesOn, sl_X12_comesOn, ini_RX12, cd_X12_comesOn, ⟨by decide +kernel, by decide +kernel, by decide +kernel⟩, by decide⟩
theorem kc_J6_265 : Cond.constant RJ6 265 (1431655765) ∈ TBL := TBL_5 23 rfl rfl
theorem kc_J6_266 : Cond.constant RJ6 266 (858993459) ∈ TBL := TBL_5 24 rfl rfl
theorem kc_J6_267 : Cond.constant RJ6 267 (252645135) ∈ TBL := TBL_5 25 rfl rfl
theorem ml_J0_492 : MLv RJ0 492 yJ0_isLatin1_aae02 cJ0_isLatin1_aae02 1 (some .boolean) 0 := ⟨TBL_3 49 rfl rfl, im_J0_isLatin1_aae02, sl_J0_isLatin1_aae02, ini_RJ0, cd_J0_isLatin1_aae02, ⟨by decide +kernel, by decide +kernel, by decide +kernel⟩, by decide⟩
theorem ml_J0_495 : MLs RJ0 495 yJ1_charAt_3b067 cJ1_charAt_3b067 2 (some .char) 2 := ⟨TBL_3 55 rfl rfl, sm_J1_charAt_3b067, ini_RJ1, cd_J1_charAt_3b067, ⟨by decide +kernel, by decide +kernel, by decide +kernel⟩, by decide⟩
theorem ml_J0_498 : MLs RJ0 498 yJ2_charAt_3b067 cJ2_charAt_3b067 2 (some .char) 2 := ⟨TBL_3 66 rfl rfl, sm_J2_charAt_3b067, ini_RJ2, cd_J2_charAt_3b067, ⟨by decide +kernel, by decide +kernel, by decide +kernel⟩, by decide⟩
theorem ml_J0_1059 : MLs RJ0 1059 yJ3_checkIndex_8e157 cJ3_checkIndex_8e157 3 (some .int) 3 := ⟨TBL_3 63 rfl rfl, sm_J3_checkIndex_8e157, ini_RJ3, cd_J3_checkIndex_8e157, ⟨by decide +kernel, by decide +kernel, by decide +kernel⟩, by decide⟩
theorem ml_J1_9 : MLs RJ1 9 yJ0_checkIndex_df160 cJ0_checkIndex_df160 2 none 2 := ⟨TBL_3 58 rfl rfl, sm_J0_checkIndex_df160, ini_RJ0, cd_J0_checkIndex_df160, ⟨by decide +kernel, by decide +kernel, by decide +kernel⟩, by decide⟩
theorem ml_J2_48 : MLs RJ2 48 yJ2_length_9d52b cJ2_length_9d52b 1 (some .int) 1 := ⟨TBL_3 72 rfl rfl, sm_J2_length_9d52b, ini_RJ2, cd_J2_length_9d52b, ⟨by decide +kernel, by decide +kernel, by decide +kernel⟩, by decide⟩
theorem ml_J2_67 : MLs RJ2 67 yJ2_checkIndex_2214a cJ2_checkIndex_2214a 2 none 2 := ⟨TBL_3 69 rfl rfl, sm_J2_checkIndex_2214a, ini_RJ2, cd_J2_checkIndex_2214a, ⟨by decide +kernel, by decide +kernel, by decide +kernel⟩, by decide⟩
theorem ml_J2_71 : MLs RJ2 71 yJ2_getChar_3b067 cJ2_getChar_3b067 2 (some .char) 2 := ⟨TBL_3 76 rfl rfl, sm_J2_getChar_3b067, ini_RJ2, cd_J2_getChar_3b067, ⟨by decide +kernel, by decide +kernel, by decide +kernel⟩, by decide⟩
theorem ml_J2_414 : MLs RJ2 414 yJ0_checkIndex_df160 cJ0_checkIndex_df160 2 none 2 := ⟨TBL_3 75 rfl rfl, sm_J0_checkIndex_df160, ini_RJ0, cd_J0_checkIndex_df160, ⟨by decide +kernel, by decide +kernel, by decide +kernel⟩, by decide⟩
theorem fp_0_2 : FP 0 2 .int := by
  intro C T n h
  cases h
  exact ⟨⟨tyX0, tyX0_ok⟩, nmX0, rfl, by decide +kernel⟩
theorem fp_0_8 : FP 0 8 .int := by
  intro C T n h
  cases h
  exact ⟨⟨tyX0, tyX0_ok⟩, nmX0, rfl, by decide +kernel⟩
theorem fp_0_9 : FP 0 9 .int := by
  intro C T n h
  cases h
  exact ⟨⟨tyX0, tyX0_ok⟩, nmX0, rfl, by decide +kernel⟩
theorem fp_1_2 : FP 1 2 .int := by
  intro C T n h
  cases h
  exact ⟨⟨tyX1, tyX1_ok⟩, nmX1, rfl, by decide +kernel⟩
theorem fp_1_3 : FP 1 3 .int := by
  intro C T n h
  cases h
  exact ⟨⟨tyX1, tyX1_ok⟩, nmX1, rfl, by decide +kernel⟩
theorem fp_2_0 : FP 2 0 .int := by
  intro C T n h
  cases h
  exact ⟨⟨tyX2, tyX2_ok⟩, nmX2, rfl, by decide +kernel⟩
theorem fp_2_1 : FP 2 1 .int := by
  intro C T n h
  cases h
  exact ⟨⟨tyX2, tyX2_ok⟩, nmX2, rfl, by decide +kernel⟩
theorem fp_2_2 : FP 2 2 .int := by
  intro C T n h
  cases h
  exact ⟨⟨tyX2, tyX2_ok⟩, nmX2, rfl, by decide +kernel⟩
theorem fp_2_3 : FP 2 3 .int := by
  intro C T n h
  cases h
  exact ⟨⟨tyX2, tyX2_ok⟩, nmX2, rfl, by decide +kernel⟩
theorem fp_2_4 : FP 2 4 .int := by
  intro C T n h
  cases h
  exact ⟨⟨tyX2, tyX2_ok⟩, nmX2, rfl, by decide +kernel⟩
theorem fp_2_5 : FP 2 5 .int := by
  intro C T n h
  cases h
  exact ⟨⟨tyX2, tyX2_ok⟩, nmX2, rfl, by decide +kernel⟩
theorem fp_2_16 : FP 2 16 .int := by
  intro C T n h
  cases h
  exact ⟨⟨tyX2, tyX2_ok⟩, nmX2, rfl, by decide +kernel⟩
theorem fp_3_1 : FP 3 1 .int := by
  intro C T n h
  cases h
  exact ⟨⟨tyX3, tyX3_ok⟩, nmX3, rfl, by decide +kernel⟩
theorem fp_4_4 : FP 4 4 (.object "LakeMarket$Scene") := by
  intro C T n h
  cases h
  exact ⟨⟨tyX4, tyX4_ok⟩, nmX4, rfl, by decide +kernel⟩
theorem fp_5_1 : FP 5 1 .int := by
  intro C T n h
  cases h
  exact ⟨⟨tyX5, tyX5_ok⟩, nmX5, rfl, by decide +kernel⟩
theorem fp_6_1 : FP 6 1 .int := by
  intro C T n h
  cases h
  exact ⟨⟨tyX6, tyX6_ok⟩, nmX6, rfl, by decide +kernel⟩
theorem fp_7_2 : FP 7 2 (.object "LakeMarket$Lowland") := by
  intro C T n h
  cases h
  exact ⟨⟨tyX7, tyX7_ok⟩, nmX7, rfl, by decide +kernel⟩
theorem fp_7_3 : FP 7 3 .int := by
  intro C T n h
  cases h
  exact ⟨⟨tyX7, tyX7_ok⟩, nmX7, rfl, by decide +kernel⟩
theorem fp_8_1 : FP 8 1 (.object "LakeMarket$Lowland") := by
  intro C T n h
  cases h
  exact ⟨⟨tyX8, tyX8_ok⟩, nmX8, rfl, by decide +kernel⟩
theorem fp_8_2 : FP 8 2 .int := by
  intro C T n h
  cases h
  exact ⟨⟨tyX8, tyX8_ok⟩, nmX8, rfl, by decide +kernel⟩
theorem fp_9_0 : FP 9 0 (.object "LakeMarket$Lowland") := by
  intro C T n h
  cases h
  exact ⟨⟨tyX9, tyX9_ok⟩, nmX9, rfl, by decide +kernel⟩
theorem fp_9_1 : FP 9 1 .int := by
  intro C T n h
  cases h
  exact ⟨⟨tyX9, tyX9_ok⟩, nmX9, rfl, by decide +kernel⟩
theorem fp_10_1 : FP 10 1 .int := by
  intro C T n h
  cases h
  exact ⟨⟨tyX10, tyX10_ok⟩, nmX10, rfl, by decide +kernel⟩
theorem fp_10_2 : FP 10 2 .int := by
  intro C T n h
  cases h
  exact ⟨⟨tyX10, tyX10_ok⟩, nmX10, rfl, by decide +kernel⟩
theorem fp_10_3 : FP 10 3 .int := by
  intro C T n h
  cases h
  exact ⟨⟨tyX10, tyX10_ok⟩, nmX10, rfl, by decide +kernel⟩
theorem fp_10_4 : FP 10 4 .int := by
  intro C T n h
  cases h
  exact ⟨⟨tyX10, tyX10_ok⟩, nmX10, rfl, by decide +kernel⟩
theorem fp_10_5 : FP 10 5 .int := by
  intro C T n h
  cases h
  exact ⟨⟨tyX10, tyX10_ok⟩, nmX10, rfl, by decide +kernel⟩
theorem fp_10_6 : FP 10 6 .int := by
  intro C T n h
  cases h
  exact ⟨⟨tyX10, tyX10_ok⟩, nmX10, rfl, by decide +kernel⟩
theorem fp_10_7 : FP 10 7 .int := by
  intro C T n h
  cases h
  exact ⟨⟨tyX10, tyX10_ok⟩, nmX10, rfl, by decide +kernel⟩
theorem fp_10_8 : FP 10 8 .int := by
  intro C T n h
  cases h
  exact ⟨⟨tyX10, tyX10_ok⟩, nmX10, rfl, by decide +kernel⟩
theorem fp_11_1 : FP 11 1 .int := by
  intro C T n h
  cases h
  exact ⟨⟨tyX11, tyX11_ok⟩, nmX11, rfl, by decide +kernel⟩
theorem fp_11_2 : FP 11 2 (.object "LakeMarket$Lowland") := by
  intro C T n h
  cases h
  exact ⟨⟨tyX11, tyX11_ok⟩, nmX11, rfl, by decide +kernel⟩
theorem fp_11_3 : FP 11 3 (.object "LakeMarket$Lowland") := by
  intro C T n h
  cases h
  exact ⟨⟨tyX11, tyX11_ok⟩, nmX11, rfl, by decide +kernel⟩
theorem fp_11_5 : FP 11 5 .int := by
  intro C T n h
  cases h
  exact ⟨⟨tyX11, tyX11_ok⟩, nmX11, rfl, by decide +kernel⟩
theorem fp_11_6 : FP 11 6 .int := by
  intro C T n h
  cases h
  exact ⟨⟨tyX11, tyX11_ok⟩, nmX11, rfl, by decide +kernel⟩
theorem fp_11_16 : FP 11 16 .int := by
  intro C T n h
  cases h
  exact ⟨⟨tyX11, tyX11_ok⟩, nmX11, rfl, by decide +kernel⟩
theorem fp_11_17 : FP 11 17 .int := by
  intro C T n h
  cases h
  exact ⟨⟨tyX11, tyX11_ok⟩, nmX11, rfl, by decide +kernel⟩
theorem fp_12_1 : FP 12 1 .int := by
  intro C T n h
  cases h
  exact ⟨⟨tyX12, tyX12_ok⟩, nmX12, rfl, by decide +kernel⟩
theorem fp_12_2 : FP 12 2 .int := by
  intro C T n h
  cases h
  exact ⟨⟨tyX12, tyX12_ok⟩, nmX12, rfl, by decide +kernel⟩
theorem fp_12_3 : FP 12 3 .int := by
  intro C T n h
  cases h
  exact ⟨⟨tyX12, tyX12_ok⟩, nmX12, rfl, by decide +kernel⟩
theorem fp_12_4 : FP 12 4 .int := by
  intro C T n h
  cases h
  exact ⟨⟨tyX12, tyX12_ok⟩, nmX12, rfl, by decide +kernel⟩
theorem fp_12_5 : FP 12 5 .int := by
  intro C T n h
  cases h
  exact ⟨⟨tyX12, tyX12_ok⟩, nmX12, rfl, by decide +kernel⟩
theorem fp_12_6 : FP 12 6 .int := by
  intro C T n h
  cases h
  exact ⟨⟨tyX12, tyX12_ok⟩, nmX12, rfl, by decide +kernel⟩
theorem fp_12_7 : FP 12 7 .long := by
  intro C T n h
  cases h
  exact ⟨⟨tyX12, tyX12_ok⟩, nmX12, rfl, by decide +kernel⟩
theorem fp_12_8 : FP 12 8 .int := by
  intro C T n h
  cases h
  exact ⟨⟨tyX12, tyX12_ok⟩, nmX12, rfl, by decide +kernel⟩
theorem fp_12_9 : FP 12 9 .int := by
  intro C T n h
  cases h
  exact ⟨⟨tyX12, tyX12_ok⟩, nmX12, rfl, by decide +kernel⟩
theorem fp_12_10 : FP 12 10 .int := by
  intro C T n h
  cases h
  exact ⟨⟨tyX12, tyX12_ok⟩, nmX12, rfl, by decide +kernel⟩
theorem fp_12_11 : FP 12 11 .int := by
  intro C T n h
  cases h
  exact ⟨⟨tyX12, tyX12_ok⟩, nmX12, rfl, by decide +kernel⟩
theorem fp_12_12 : FP 12 12 .int := by
  intro C T n h
  cases h
  exact ⟨⟨tyX12, tyX12_ok⟩, nmX12, rfl, by decide +kernel⟩
theorem fp_12_13 : FP 12 13 .int := by
  intro C T n h
  cases h
  exact ⟨⟨tyX12, tyX12_ok⟩, nmX12, rfl, by decide +kernel⟩
theorem fp_12_32 : FP 12 32 .int := by
  intro C T n h
  cases h
  exact ⟨⟨tyX12, tyX12_ok⟩, nmX12, rfl, by decide +kernel⟩
theorem fp_12_33 : FP 12 33 .int := by
  intro C T n h
  cases h
  exact ⟨⟨tyX12, tyX12_ok⟩, nmX12, rfl, by decide +kernel⟩
theorem fp_12_34 : FP 12 34 .int := by
  intro C T n h
  cases h
  exact ⟨⟨tyX12, tyX12_ok⟩, nmX12, rfl, by decide +kernel⟩
theorem fp_12_40 : FP 12 40 .int := by
  intro C T n h
  cases h
  exact ⟨⟨tyX12, tyX12_ok⟩, nmX12, rfl, by decide +kernel⟩
theorem fp_12_41 : FP 12 41 .int := by
  intro C T n h
  cases h
  exact ⟨⟨tyX12, tyX12_ok⟩, nmX12, rfl, by decide +kernel⟩
theorem fp_12_43 : FP 12 43 .int := by
  intro C T n h
  cases h
  exact ⟨⟨tyX12, tyX12_ok⟩, nmX12, rfl, by decide +kernel⟩
theorem fp_12_44 : FP 12 44 .boolean := by
  intro C T n h
  cases h
  exact ⟨⟨tyX12, tyX12_ok⟩, nmX12, rfl, by decide +kernel⟩
theorem fp_12_53 : FP 12 53 .int := by
  intro C T n h
  cases h
  exact ⟨⟨tyX12, tyX12_ok⟩, nmX12, rfl, by decide +kernel⟩
theorem fp_12_54 : FP 12 54 .int := by
  intro C T n h
  cases h
  exact ⟨⟨tyX12, tyX12_ok⟩, nmX12, rfl, by decide +kernel⟩
theorem fp_12_55 : FP 12 55 .long := by
  intro C T n h
  cases h
  exact ⟨⟨tyX12, tyX12_ok⟩, nmX12, rfl, by decide +kernel⟩
theorem fp_12_66 : FP 12 66 .int := by
  intro C T n h
  cases h
  exact ⟨⟨tyX12, tyX12_ok⟩, nmX12, rfl, by decide +kernel⟩
theorem fp_12_70 : FP 12 70 .int := by
  intro C T n h
  cases h
  exact ⟨⟨tyX12, tyX12_ok⟩, nmX12, rfl, by decide +kernel⟩
