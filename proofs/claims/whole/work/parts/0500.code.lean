theorem xc_0 : xcok cX0_init xC0 = true := by decide +kernel
theorem xc_1_0 : xcok cX0_tell ((xC1.drop 0).take 30) = true := by decide +kernel
theorem xc_1_30 : xcok cX0_tell ((xC1.drop 30).take 30) = true := by decide +kernel
theorem xc_1_last : xcok cX0_tell ((xC1.drop 30).drop 30) = true := by decide +kernel
theorem xc_1_t30 : xcok cX0_tell (xC1.drop 30) = true := xc_cut 30 xc_1_30 xc_1_last
theorem xc_1_t0 : xcok cX0_tell (xC1.drop 0) = true := xc_cut 30 xc_1_0 (by rw [List.drop_drop]; exact xc_1_t30)
theorem xc_1 : xcok cX0_tell xC1 = true := xc_1_t0
theorem xc_2_0 : xcok cX0_tellLeft ((xC2.drop 0).take 30) = true := by decide +kernel
theorem xc_2_30 : xcok cX0_tellLeft ((xC2.drop 30).take 30) = true := by decide +kernel
theorem xc_2_60 : xcok cX0_tellLeft ((xC2.drop 60).take 30) = true := by decide +kernel
theorem xc_2_90 : xcok cX0_tellLeft ((xC2.drop 90).take 30) = true := by decide +kernel
theorem xc_2_last : xcok cX0_tellLeft ((xC2.drop 90).drop 30) = true := by decide +kernel
theorem xc_2_t90 : xcok cX0_tellLeft (xC2.drop 90) = true := xc_cut 30 xc_2_90 xc_2_last
theorem xc_2_t60 : xcok cX0_tellLeft (xC2.drop 60) = true := xc_cut 30 xc_2_60 (by rw [List.drop_drop]; exact xc_2_t90)
theorem xc_2_t30 : xcok cX0_tellLeft (xC2.drop 30) = true := xc_cut 30 xc_2_30 (by rw [List.drop_drop]; exact xc_2_t60)
theorem xc_2_t0 : xcok cX0_tellLeft (xC2.drop 0) = true := xc_cut 30 xc_2_0 (by rw [List.drop_drop]; exact xc_2_t30)
theorem xc_2 : xcok cX0_tellLeft xC2 = true := xc_2_t0
theorem xc_3_0 : xcok cX0_tellGreatest ((xC3.drop 0).take 30) = true := by decide +kernel
theorem xc_3_30 : xcok cX0_tellGreatest ((xC3.drop 30).take 30) = true := by decide +kernel
theorem xc_3_last : xcok cX0_tellGreatest ((xC3.drop 30).drop 30) = true := by decide +kernel
theorem xc_3_t30 : xcok cX0_tellGreatest (xC3.drop 30) = true := xc_cut 30 xc_3_30 xc_3_last
theorem xc_3_t0 : xcok cX0_tellGreatest (xC3.drop 0) = true := xc_cut 30 xc_3_0 (by rw [List.drop_drop]; exact xc_3_t30)
theorem xc_3 : xcok cX0_tellGreatest xC3 = true := xc_3_t0
theorem xc_4 : xcok cX0_power xC4 = true := by decide +kernel
theorem xc_5 : xcok cX1_init xC5 = true := by decide +kernel
theorem xc_6_0 : xcok cX1_hear ((xC6.drop 0).take 30) = true := by decide +kernel
theorem xc_6_30 : xcok cX1_hear ((xC6.drop 30).take 30) = true := by decide +kernel
theorem xc_6_last : xcok cX1_hear ((xC6.drop 30).drop 30) = true := by decide +kernel
theorem xc_6_t30 : xcok cX1_hear (xC6.drop 30) = true := xc_cut 30 xc_6_30 xc_6_last
theorem xc_6_t0 : xcok cX1_hear (xC6.drop 0) = true := xc_cut 30 xc_6_0 (by rw [List.drop_drop]; exact xc_6_t30)
theorem xc_6 : xcok cX1_hear xC6 = true := xc_6_t0
theorem xc_7 : xcok cX1_fits xC7 = true := by decide +kernel
theorem xc_8 : xcok cX1_seedsOf xC8 = true := by decide +kernel
theorem xc_9 : xcok cX1_canBe xC9 = true := by decide +kernel
theorem xc_10 : xcok cX1_kindsBy xC10 = true := by decide +kernel
theorem xc_11_0 : xcok cX1_wordsIn ((xC11.drop 0).take 30) = true := by decide +kernel
theorem xc_11_30 : xcok cX1_wordsIn ((xC11.drop 30).take 30) = true := by decide +kernel
theorem xc_11_last : xcok cX1_wordsIn ((xC11.drop 30).drop 30) = true := by decide +kernel
theorem xc_11_t30 : xcok cX1_wordsIn (xC11.drop 30) = true := xc_cut 30 xc_11_30 xc_11_last
theorem xc_11_t0 : xcok cX1_wordsIn (xC11.drop 0) = true := xc_cut 30 xc_11_0 (by rw [List.drop_drop]; exact xc_11_t30)
theorem xc_11 : xcok cX1_wordsIn xC11 = true := xc_11_t0
theorem xc_12_0 : xcok cX1_greatestPart ((xC12.drop 0).take 30) = true := by decide +kernel
theorem xc_12_30 : xcok cX1_greatestPart ((xC12.drop 30).take 30) = true := by decide +kernel
theorem xc_12_60 : xcok cX1_greatestPart ((xC12.drop 60).take 30) = true := by decide +kernel
theorem xc_12_last : xcok cX1_greatestPart ((xC12.drop 60).drop 30) = true := by decide +kernel
theorem xc_12_t60 : xcok cX1_greatestPart (xC12.drop 60) = true := xc_cut 30 xc_12_60 xc_12_last
theorem xc_12_t30 : xcok cX1_greatestPart (xC12.drop 30) = true := xc_cut 30 xc_12_30 (by rw [List.drop_drop]; exact xc_12_t60)
theorem xc_12_t0 : xcok cX1_greatestPart (xC12.drop 0) = true := xc_cut 30 xc_12_0 (by rw [List.drop_drop]; exact xc_12_t30)
theorem xc_12 : xcok cX1_greatestPart xC12 = true := xc_12_t0
theorem xc_13 : xcok cX1_bestPod xC13 = true := by decide +kernel
theorem xc_14_0 : xcok cX2_init ((xC14.drop 0).take 30) = true := by decide +kernel
theorem xc_14_30 : xcok cX2_init ((xC14.drop 30).take 30) = true := by decide +kernel
theorem xc_14_last : xcok cX2_init ((xC14.drop 30).drop 30) = true := by decide +kernel
theorem xc_14_t30 : xcok cX2_init (xC14.drop 30) = true := xc_cut 30 xc_14_30 xc_14_last
theorem xc_14_t0 : xcok cX2_init (xC14.drop 0) = true := xc_cut 30 xc_14_0 (by rw [List.drop_drop]; exact xc_14_t30)
theorem xc_14 : xcok cX2_init xC14 = true := xc_14_t0
theorem xc_15 : xcok cX2_plantOf xC15 = true := by decide +kernel
theorem xc_16 : xcok cX2_size xC16 = true := by decide +kernel
theorem xc_17 : xcok cX2_bare xC17 = true := by decide +kernel
theorem xc_18 : xcok cX2_today xC18 = true := by decide +kernel
theorem xc_19 : xcok cX2_saidLast xC19 = true := by decide +kernel
theorem xc_20 : xcok cX2_deeds xC20 = true := by decide +kernel
theorem xc_21 : xcok cX2_sow xC21 = true := by decide +kernel
theorem xc_22 : xcok cX2_tooMany xC22 = true := by decide +kernel
theorem xc_23 : xcok cX2_act xC23 = true := by decide +kernel
theorem xc_24_0 : xcok cX2_happen ((xC24.drop 0).take 30) = true := by decide +kernel
theorem xc_24_30 : xcok cX2_happen ((xC24.drop 30).take 30) = true := by decide +kernel
theorem xc_24_last : xcok cX2_happen ((xC24.drop 30).drop 30) = true := by decide +kernel
theorem xc_24_t30 : xcok cX2_happen (xC24.drop 30) = true := xc_cut 30 xc_24_30 xc_24_last
theorem xc_24_t0 : xcok cX2_happen (xC24.drop 0) = true := xc_cut 30 xc_24_0 (by rw [List.drop_drop]; exact xc_24_t30)
theorem xc_24 : xcok cX2_happen xC24 = true := xc_24_t0
theorem xc_25 : xcok cX2_goBack xC25 = true := by decide +kernel
theorem xc_26 : xcok cX2_goOnFrom xC26 = true := by decide +kernel
theorem xc_27_0 : xcok cX2_doAgain ((xC27.drop 0).take 30) = true := by decide +kernel
theorem xc_27_30 : xcok cX2_doAgain ((xC27.drop 30).take 30) = true := by decide +kernel
theorem xc_27_last : xcok cX2_doAgain ((xC27.drop 30).drop 30) = true := by decide +kernel
theorem xc_27_t30 : xcok cX2_doAgain (xC27.drop 30) = true := xc_cut 30 xc_27_30 xc_27_last
theorem xc_27_t0 : xcok cX2_doAgain (xC27.drop 0) = true := xc_cut 30 xc_27_0 (by rw [List.drop_drop]; exact xc_27_t30)
theorem xc_27 : xcok cX2_doAgain xC27 = true := xc_27_t0
theorem xc_28_0 : xcok cX2_actByLots ((xC28.drop 0).take 30) = true := by decide +kernel
theorem xc_28_30 : xcok cX2_actByLots ((xC28.drop 30).take 30) = true := by decide +kernel
theorem xc_28_60 : xcok cX2_actByLots ((xC28.drop 60).take 30) = true := by decide +kernel
theorem xc_28_last : xcok cX2_actByLots ((xC28.drop 60).drop 30) = true := by decide +kernel
theorem xc_28_t60 : xcok cX2_actByLots (xC28.drop 60) = true := xc_cut 30 xc_28_60 xc_28_last
theorem xc_28_t30 : xcok cX2_actByLots (xC28.drop 30) = true := xc_cut 30 xc_28_30 (by rw [List.drop_drop]; exact xc_28_t60)
theorem xc_28_t0 : xcok cX2_actByLots (xC28.drop 0) = true := xc_cut 30 xc_28_0 (by rw [List.drop_drop]; exact xc_28_t30)
theorem xc_28 : xcok cX2_actByLots xC28 = true := xc_28_t0
theorem xc_29 : xcok cX2_allPlants xC29 = true := by decide +kernel
theorem xc_30 : xcok cX2_leftPlants xC30 = true := by decide +kernel
theorem xc_31 : xcok cX2_sumOf xC31 = true := by decide +kernel
theorem xc_32 : xcok cX2_runners xC32 = true := by decide +kernel
theorem xc_33 : xcok cX3_init xC33 = true := by decide +kernel
theorem xc_34_0 : xcok cX3_begin ((xC34.drop 0).take 30) = true := by decide +kernel
