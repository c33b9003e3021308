theorem xc_34_30 : xcok cX3_begin ((xC34.drop 30).take 30) = true := by decide +kernel
theorem xc_34_last : xcok cX3_begin ((xC34.drop 30).drop 30) = true := by decide +kernel
theorem xc_34_t30 : xcok cX3_begin (xC34.drop 30) = true := xc_cut 30 xc_34_30 xc_34_last
theorem xc_34_t0 : xcok cX3_begin (xC34.drop 0) = true := xc_cut 30 xc_34_0 (by rw [List.drop_drop]; exact xc_34_t30)
theorem xc_34 : xcok cX3_begin xC34 = true := xc_34_t0
theorem xc_35 : xcok cX3_isOpen xC35 = true := by decide +kernel
theorem xc_36 : xcok cX3_says xC36 = true := by decide +kernel
theorem xc_37 : xcok cX3_take xC37 = true := by decide +kernel
theorem xc_38 : xcok cX3_giveBack xC38 = true := by decide +kernel
theorem xc_39 : xcok cX3_openPlants xC39 = true := by decide +kernel
theorem xc_40 : xcok cX3_openWords xC40 = true := by decide +kernel
theorem xc_41 : xcok cX3_sayingAtLeast xC41 = true := by decide +kernel
theorem xc_42 : xcok cX3_play xC42 = true := by decide +kernel
theorem xc_43_0 : xcok cX3_playTurns ((xC43.drop 0).take 30) = true := by decide +kernel
theorem xc_43_30 : xcok cX3_playTurns ((xC43.drop 30).take 30) = true := by decide +kernel
theorem xc_43_last : xcok cX3_playTurns ((xC43.drop 30).drop 30) = true := by decide +kernel
theorem xc_43_t30 : xcok cX3_playTurns (xC43.drop 30) = true := xc_cut 30 xc_43_30 xc_43_last
theorem xc_43_t0 : xcok cX3_playTurns (xC43.drop 0) = true := xc_cut 30 xc_43_0 (by rw [List.drop_drop]; exact xc_43_t30)
theorem xc_43 : xcok cX3_playTurns xC43 = true := xc_43_t0
theorem xc_44 : xcok cX4_byLetter xC44 = true := by decide +kernel
theorem xc_45 : xcok cX4_isOf xC45 = true := by decide +kernel
theorem xc_46 : xcok cX4_beanPods xC46 = true := by decide +kernel
theorem xc_47 : xcok cX4_ripePods xC47 = true := by decide +kernel
theorem xc_48_0 : xcok cX4_says ((xC48.drop 0).take 30) = true := by decide +kernel
theorem xc_48_30 : xcok cX4_says ((xC48.drop 30).take 30) = true := by decide +kernel
theorem xc_48_last : xcok cX4_says ((xC48.drop 30).drop 30) = true := by decide +kernel
theorem xc_48_t30 : xcok cX4_says (xC48.drop 30) = true := xc_cut 30 xc_48_30 xc_48_last
theorem xc_48_t0 : xcok cX4_says (xC48.drop 0) = true := xc_cut 30 xc_48_0 (by rw [List.drop_drop]; exact xc_48_t30)
theorem xc_48 : xcok cX4_says xC48 = true := xc_48_t0
theorem xc_49 : xcok cX5_init xC49 = true := by decide +kernel
theorem xc_50 : xcok cX5_sow xC50 = true := by decide +kernel
theorem xc_51 : xcok cX5_renew xC51 = true := by decide +kernel
theorem xc_52 : xcok cX5_age xC52 = true := by decide +kernel
theorem xc_53 : xcok cX5_says xC53 = true := by decide +kernel
theorem xc_54 : xcok cX5_ripePods xC54 = true := by decide +kernel
theorem xc_55 : xcok cX5_mayBePicked xC55 = true := by decide +kernel
theorem xc_56 : xcok cX5_canDrink xC56 = true := by decide +kernel
theorem xc_57 : xcok cX5_openPods xC57 = true := by decide +kernel
theorem xc_58 : xcok cX5_running xC58 = true := by decide +kernel
theorem xc_59_0 : xcok cX5_daysTo ((xC59.drop 0).take 30) = true := by decide +kernel
theorem xc_59_30 : xcok cX5_daysTo ((xC59.drop 30).take 30) = true := by decide +kernel
theorem xc_59_last : xcok cX5_daysTo ((xC59.drop 30).drop 30) = true := by decide +kernel
theorem xc_59_t30 : xcok cX5_daysTo (xC59.drop 30) = true := xc_cut 30 xc_59_30 xc_59_last
theorem xc_59_t0 : xcok cX5_daysTo (xC59.drop 0) = true := xc_cut 30 xc_59_0 (by rw [List.drop_drop]; exact xc_59_t30)
theorem xc_59 : xcok cX5_daysTo xC59 = true := xc_59_t0
theorem xc_60_0 : xcok cX5_feature ((xC60.drop 0).take 30) = true := by decide +kernel
theorem xc_60_30 : xcok cX5_feature ((xC60.drop 30).take 30) = true := by decide +kernel
theorem xc_60_last : xcok cX5_feature ((xC60.drop 30).drop 30) = true := by decide +kernel
theorem xc_60_t30 : xcok cX5_feature (xC60.drop 30) = true := xc_cut 30 xc_60_30 xc_60_last
theorem xc_60_t0 : xcok cX5_feature (xC60.drop 0) = true := xc_cut 30 xc_60_0 (by rw [List.drop_drop]; exact xc_60_t30)
theorem xc_60 : xcok cX5_feature xC60 = true := xc_60_t0
theorem xc_61_0 : xcok cX5_markOf ((xC61.drop 0).take 30) = true := by decide +kernel
theorem xc_61_30 : xcok cX5_markOf ((xC61.drop 30).take 30) = true := by decide +kernel
theorem xc_61_last : xcok cX5_markOf ((xC61.drop 30).drop 30) = true := by decide +kernel
theorem xc_61_t30 : xcok cX5_markOf (xC61.drop 30) = true := xc_cut 30 xc_61_30 xc_61_last
theorem xc_61_t0 : xcok cX5_markOf (xC61.drop 0) = true := xc_cut 30 xc_61_0 (by rw [List.drop_drop]; exact xc_61_t30)
theorem xc_61 : xcok cX5_markOf xC61 = true := xc_61_t0
theorem xc_62 : xcok cX5_saysAgain xC62 = true := by decide +kernel
theorem xc_63 : xcok cX6_init xC63 = true := by decide +kernel
theorem xc_64_0 : xcok cX6_read ((xC64.drop 0).take 30) = true := by decide +kernel
theorem xc_64_30 : xcok cX6_read ((xC64.drop 30).take 30) = true := by decide +kernel
theorem xc_64_60 : xcok cX6_read ((xC64.drop 60).take 30) = true := by decide +kernel
theorem xc_64_last : xcok cX6_read ((xC64.drop 60).drop 30) = true := by decide +kernel
theorem xc_64_t60 : xcok cX6_read (xC64.drop 60) = true := xc_cut 30 xc_64_60 xc_64_last
theorem xc_64_t30 : xcok cX6_read (xC64.drop 30) = true := xc_cut 30 xc_64_30 (by rw [List.drop_drop]; exact xc_64_t60)
theorem xc_64_t0 : xcok cX6_read (xC64.drop 0) = true := xc_cut 30 xc_64_0 (by rw [List.drop_drop]; exact xc_64_t30)
theorem xc_64 : xcok cX6_read xC64 = true := xc_64_t0
theorem xc_65_0 : xcok cX6_valueOf ((xC65.drop 0).take 30) = true := by decide +kernel
theorem xc_65_30 : xcok cX6_valueOf ((xC65.drop 30).take 30) = true := by decide +kernel
theorem xc_65_last : xcok cX6_valueOf ((xC65.drop 30).drop 30) = true := by decide +kernel
theorem xc_65_t30 : xcok cX6_valueOf (xC65.drop 30) = true := xc_cut 30 xc_65_30 xc_65_last
theorem xc_65_t0 : xcok cX6_valueOf (xC65.drop 0) = true := xc_cut 30 xc_65_0 (by rw [List.drop_drop]; exact xc_65_t30)
theorem xc_65 : xcok cX6_valueOf xC65 = true := xc_65_t0
theorem xc_66 : xcok cX6_plants xC66 = true := by decide +kernel
theorem xc_67 : xcok cX6_part xC67 = true := by decide +kernel
theorem xc_68_0 : xcok cX7_init ((xC68.drop 0).take 30) = true := by decide +kernel
theorem xc_68_30 : xcok cX7_init ((xC68.drop 30).take 30) = true := by decide +kernel
theorem xc_68_last : xcok cX7_init ((xC68.drop 30).drop 30) = true := by decide +kernel
theorem xc_68_t30 : xcok cX7_init (xC68.drop 30) = true := xc_cut 30 xc_68_30 xc_68_last
theorem xc_68_t0 : xcok cX7_init (xC68.drop 0) = true := xc_cut 30 xc_68_0 (by rw [List.drop_drop]; exact xc_68_t30)
theorem xc_68 : xcok cX7_init xC68 = true := xc_68_t0
theorem xc_69 : xcok cX7_howMany xC69 = true := by decide +kernel
theorem xc_70 : xcok cX7_plantsInAll xC70 = true := by decide +kernel
theorem xc_71 : xcok cX7_plantsInAny xC71 = true := by decide +kernel
theorem xc_72 : xcok cX7_firstPlant xC72 = true := by decide +kernel
theorem xc_73 : xcok cX7_soonestWay xC73 = true := by decide +kernel
theorem xc_74 : xcok cX7_hear xC74 = true := by decide +kernel
theorem xc_75 : xcok cX7_countWays xC75 = true := by decide +kernel
theorem xc_76_0 : xcok cX7_goThrough ((xC76.drop 0).take 30) = true := by decide +kernel
theorem xc_76_30 : xcok cX7_goThrough ((xC76.drop 30).take 30) = true := by decide +kernel
