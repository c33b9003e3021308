theorem xc_76_60 : xcok cX7_goThrough ((xC76.drop 60).take 30) = true := by decide +kernel
theorem xc_76_last : xcok cX7_goThrough ((xC76.drop 60).drop 30) = true := by decide +kernel
theorem xc_76_t60 : xcok cX7_goThrough (xC76.drop 60) = true := xc_cut 30 xc_76_60 xc_76_last
theorem xc_76_t30 : xcok cX7_goThrough (xC76.drop 30) = true := xc_cut 30 xc_76_30 (by rw [List.drop_drop]; exact xc_76_t60)
theorem xc_76_t0 : xcok cX7_goThrough (xC76.drop 0) = true := xc_cut 30 xc_76_0 (by rw [List.drop_drop]; exact xc_76_t30)
theorem xc_76 : xcok cX7_goThrough xC76 = true := xc_76_t0
theorem xc_77 : xcok cX7_seekSoonest xC77 = true := by decide +kernel
theorem xc_78_0 : xcok cX7_setDues ((xC78.drop 0).take 30) = true := by decide +kernel
theorem xc_78_30 : xcok cX7_setDues ((xC78.drop 30).take 30) = true := by decide +kernel
theorem xc_78_last : xcok cX7_setDues ((xC78.drop 30).drop 30) = true := by decide +kernel
theorem xc_78_t30 : xcok cX7_setDues (xC78.drop 30) = true := xc_cut 30 xc_78_30 xc_78_last
theorem xc_78_t0 : xcok cX7_setDues (xC78.drop 0) = true := xc_cut 30 xc_78_0 (by rw [List.drop_drop]; exact xc_78_t30)
theorem xc_78 : xcok cX7_setDues xC78 = true := xc_78_t0
theorem xc_79_0 : xcok cX7_seek ((xC79.drop 0).take 30) = true := by decide +kernel
theorem xc_79_30 : xcok cX7_seek ((xC79.drop 30).take 30) = true := by decide +kernel
theorem xc_79_60 : xcok cX7_seek ((xC79.drop 60).take 30) = true := by decide +kernel
theorem xc_79_last : xcok cX7_seek ((xC79.drop 60).drop 30) = true := by decide +kernel
theorem xc_79_t60 : xcok cX7_seek (xC79.drop 60) = true := xc_cut 30 xc_79_60 xc_79_last
theorem xc_79_t30 : xcok cX7_seek (xC79.drop 30) = true := xc_cut 30 xc_79_30 (by rw [List.drop_drop]; exact xc_79_t60)
theorem xc_79_t0 : xcok cX7_seek (xC79.drop 0) = true := xc_cut 30 xc_79_0 (by rw [List.drop_drop]; exact xc_79_t30)
theorem xc_79 : xcok cX7_seek xC79 = true := xc_79_t0
theorem xc_80_0 : xcok cX7_daysToSay ((xC80.drop 0).take 30) = true := by decide +kernel
theorem xc_80_30 : xcok cX7_daysToSay ((xC80.drop 30).take 30) = true := by decide +kernel
theorem xc_80_60 : xcok cX7_daysToSay ((xC80.drop 60).take 30) = true := by decide +kernel
theorem xc_80_last : xcok cX7_daysToSay ((xC80.drop 60).drop 30) = true := by decide +kernel
theorem xc_80_t60 : xcok cX7_daysToSay (xC80.drop 60) = true := xc_cut 30 xc_80_60 xc_80_last
theorem xc_80_t30 : xcok cX7_daysToSay (xC80.drop 30) = true := xc_cut 30 xc_80_30 (by rw [List.drop_drop]; exact xc_80_t60)
theorem xc_80_t0 : xcok cX7_daysToSay (xC80.drop 0) = true := xc_cut 30 xc_80_0 (by rw [List.drop_drop]; exact xc_80_t30)
theorem xc_80 : xcok cX7_daysToSay xC80 = true := xc_80_t0
theorem xc_81 : xcok cX8_init xC81 = true := by decide +kernel
theorem xc_82 : xcok cX8_strip xC82 = true := by decide +kernel
theorem xc_83 : xcok cX8_there xC83 = true := by decide +kernel
theorem xc_84 : xcok cX8_loseAll xC84 = true := by decide +kernel
theorem xc_85_0 : xcok cX8_fold ((xC85.drop 0).take 30) = true := by decide +kernel
theorem xc_85_30 : xcok cX8_fold ((xC85.drop 30).take 30) = true := by decide +kernel
theorem xc_85_last : xcok cX8_fold ((xC85.drop 30).drop 30) = true := by decide +kernel
theorem xc_85_t30 : xcok cX8_fold (xC85.drop 30) = true := xc_cut 30 xc_85_30 xc_85_last
theorem xc_85_t0 : xcok cX8_fold (xC85.drop 0) = true := xc_cut 30 xc_85_0 (by rw [List.drop_drop]; exact xc_85_t30)
theorem xc_85 : xcok cX8_fold xC85 = true := xc_85_t0
theorem xc_86 : xcok cX9_init xC86 = true := by decide +kernel
theorem xc_87 : xcok cX9_missing xC87 = true := by decide +kernel
theorem xc_88 : xcok cX9_size xC88 = true := by decide +kernel
theorem xc_89 : xcok cX9_holds xC89 = true := by decide +kernel
theorem xc_90 : xcok cX9_get xC90 = true := by decide +kernel
theorem xc_91 : xcok cX9_set xC91 = true := by decide +kernel
theorem xc_92 : xcok cX9_begin xC92 = true := by decide +kernel
theorem xc_93 : xcok cX9_add xC93 = true := by decide +kernel
theorem xc_94 : xcok cX9_shorten xC94 = true := by decide +kernel
theorem xc_95 : xcok cX9_lose xC95 = true := by decide +kernel
theorem xc_96 : xcok cX9_bring xC96 = true := by decide +kernel
theorem xc_97 : xcok cX9_become xC97 = true := by decide +kernel
theorem xc_98_0 : xcok cX10_init ((xC98.drop 0).take 30) = true := by decide +kernel
theorem xc_98_30 : xcok cX10_init ((xC98.drop 30).take 30) = true := by decide +kernel
theorem xc_98_60 : xcok cX10_init ((xC98.drop 60).take 30) = true := by decide +kernel
theorem xc_98_last : xcok cX10_init ((xC98.drop 60).drop 30) = true := by decide +kernel
theorem xc_98_t60 : xcok cX10_init (xC98.drop 60) = true := xc_cut 30 xc_98_60 xc_98_last
theorem xc_98_t30 : xcok cX10_init (xC98.drop 30) = true := xc_cut 30 xc_98_30 (by rw [List.drop_drop]; exact xc_98_t60)
theorem xc_98_t0 : xcok cX10_init (xC98.drop 0) = true := xc_cut 30 xc_98_0 (by rw [List.drop_drop]; exact xc_98_t30)
theorem xc_98 : xcok cX10_init xC98 = true := xc_98_t0
theorem xc_99 : xcok cX10_row xC99 = true := by decide +kernel
theorem xc_100 : xcok cX10_lay xC100 = true := by decide +kernel
theorem xc_101 : xcok cX10_at xC101 = true := by decide +kernel
theorem xc_102 : xcok cX10_tear xC102 = true := by decide +kernel
theorem xc_103_0 : xcok cX10_copy ((xC103.drop 0).take 30) = true := by decide +kernel
theorem xc_103_30 : xcok cX10_copy ((xC103.drop 30).take 30) = true := by decide +kernel
theorem xc_103_last : xcok cX10_copy ((xC103.drop 30).drop 30) = true := by decide +kernel
theorem xc_103_t30 : xcok cX10_copy (xC103.drop 30) = true := xc_cut 30 xc_103_30 xc_103_last
theorem xc_103_t0 : xcok cX10_copy (xC103.drop 0) = true := xc_cut 30 xc_103_0 (by rw [List.drop_drop]; exact xc_103_t30)
theorem xc_103 : xcok cX10_copy xC103 = true := xc_103_t0
theorem xc_104_0 : xcok cX10_mean ((xC104.drop 0).take 30) = true := by decide +kernel
theorem xc_104_30 : xcok cX10_mean ((xC104.drop 30).take 30) = true := by decide +kernel
theorem xc_104_last : xcok cX10_mean ((xC104.drop 30).drop 30) = true := by decide +kernel
theorem xc_104_t30 : xcok cX10_mean (xC104.drop 30) = true := xc_cut 30 xc_104_30 xc_104_last
theorem xc_104_t0 : xcok cX10_mean (xC104.drop 0) = true := xc_cut 30 xc_104_0 (by rw [List.drop_drop]; exact xc_104_t30)
theorem xc_104 : xcok cX10_mean xC104 = true := xc_104_t0
theorem xc_105 : xcok cX10_text xC105 = true := by decide +kernel
theorem xc_106_0 : xcok cX10_put ((xC106.drop 0).take 30) = true := by decide +kernel
theorem xc_106_30 : xcok cX10_put ((xC106.drop 30).take 30) = true := by decide +kernel
theorem xc_106_last : xcok cX10_put ((xC106.drop 30).drop 30) = true := by decide +kernel
theorem xc_106_t30 : xcok cX10_put (xC106.drop 30) = true := xc_cut 30 xc_106_30 xc_106_last
theorem xc_106_t0 : xcok cX10_put (xC106.drop 0) = true := xc_cut 30 xc_106_0 (by rw [List.drop_drop]; exact xc_106_t30)
theorem xc_106 : xcok cX10_put xC106 = true := xc_106_t0
theorem xc_107 : xcok cX10_fault xC107 = true := by decide +kernel
theorem xc_108_0 : xcok cX10_garden ((xC108.drop 0).take 30) = true := by decide +kernel
