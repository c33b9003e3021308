theorem xc_108_30 : xcok cX10_garden ((xC108.drop 30).take 30) = true := by decide +kernel
theorem xc_108_last : xcok cX10_garden ((xC108.drop 30).drop 30) = true := by decide +kernel
theorem xc_108_t30 : xcok cX10_garden (xC108.drop 30) = true := xc_cut 30 xc_108_30 xc_108_last
theorem xc_108_t0 : xcok cX10_garden (xC108.drop 0) = true := xc_cut 30 xc_108_0 (by rw [List.drop_drop]; exact xc_108_t30)
theorem xc_108 : xcok cX10_garden xC108 = true := xc_108_t0
theorem xc_109 : xcok cX10_plant xC109 = true := by decide +kernel
theorem xc_110 : xcok cX10_mark xC110 = true := by decide +kernel
theorem xc_111 : xcok cX10_word xC111 = true := by decide +kernel
theorem xc_112 : xcok cX10_day xC112 = true := by decide +kernel
theorem xc_113 : xcok cX10_water xC113 = true := by decide +kernel
theorem xc_114_0 : xcok cX10_pick ((xC114.drop 0).take 30) = true := by decide +kernel
theorem xc_114_30 : xcok cX10_pick ((xC114.drop 30).take 30) = true := by decide +kernel
theorem xc_114_last : xcok cX10_pick ((xC114.drop 30).drop 30) = true := by decide +kernel
theorem xc_114_t30 : xcok cX10_pick (xC114.drop 30) = true := xc_cut 30 xc_114_30 xc_114_last
theorem xc_114_t0 : xcok cX10_pick (xC114.drop 0) = true := xc_cut 30 xc_114_0 (by rw [List.drop_drop]; exact xc_114_t30)
theorem xc_114 : xcok cX10_pick xC114 = true := xc_114_t0
theorem xc_115_0 : xcok cX10_goat ((xC115.drop 0).take 30) = true := by decide +kernel
theorem xc_115_30 : xcok cX10_goat ((xC115.drop 30).take 30) = true := by decide +kernel
theorem xc_115_last : xcok cX10_goat ((xC115.drop 30).drop 30) = true := by decide +kernel
theorem xc_115_t30 : xcok cX10_goat (xC115.drop 30) = true := xc_cut 30 xc_115_30 xc_115_last
theorem xc_115_t0 : xcok cX10_goat (xC115.drop 0) = true := xc_cut 30 xc_115_0 (by rw [List.drop_drop]; exact xc_115_t30)
theorem xc_115 : xcok cX10_goat xC115 = true := xc_115_t0
theorem xc_116 : xcok cX10_undo xC116 = true := by decide +kernel
theorem xc_117 : xcok cX10_keep xC117 = true := by decide +kernel
theorem xc_118 : xcok cX10_on xC118 = true := by decide +kernel
theorem xc_119 : xcok cX10_ripe xC119 = true := by decide +kernel
theorem xc_120 : xcok cX10_when xC120 = true := by decide +kernel
theorem xc_121_0 : xcok cX10_sooner ((xC121.drop 0).take 30) = true := by decide +kernel
theorem xc_121_30 : xcok cX10_sooner ((xC121.drop 30).take 30) = true := by decide +kernel
theorem xc_121_last : xcok cX10_sooner ((xC121.drop 30).drop 30) = true := by decide +kernel
theorem xc_121_t30 : xcok cX10_sooner (xC121.drop 30) = true := xc_cut 30 xc_121_30 xc_121_last
theorem xc_121_t0 : xcok cX10_sooner (xC121.drop 0) = true := xc_cut 30 xc_121_0 (by rw [List.drop_drop]; exact xc_121_t30)
theorem xc_121 : xcok cX10_sooner xC121 = true := xc_121_t0
theorem xc_122_0 : xcok cX10_soonest ((xC122.drop 0).take 30) = true := by decide +kernel
theorem xc_122_30 : xcok cX10_soonest ((xC122.drop 30).take 30) = true := by decide +kernel
theorem xc_122_last : xcok cX10_soonest ((xC122.drop 30).drop 30) = true := by decide +kernel
theorem xc_122_t30 : xcok cX10_soonest (xC122.drop 30) = true := xc_cut 30 xc_122_30 xc_122_last
theorem xc_122_t0 : xcok cX10_soonest (xC122.drop 0) = true := xc_cut 30 xc_122_0 (by rw [List.drop_drop]; exact xc_122_t30)
theorem xc_122 : xcok cX10_soonest xC122 = true := xc_122_t0
theorem xc_123 : xcok cX10_ways xC123 = true := by decide +kernel
theorem xc_124_0 : xcok cX10_none ((xC124.drop 0).take 30) = true := by decide +kernel
theorem xc_124_30 : xcok cX10_none ((xC124.drop 30).take 30) = true := by decide +kernel
theorem xc_124_last : xcok cX10_none ((xC124.drop 30).drop 30) = true := by decide +kernel
theorem xc_124_t30 : xcok cX10_none (xC124.drop 30) = true := xc_cut 30 xc_124_30 xc_124_last
theorem xc_124_t0 : xcok cX10_none (xC124.drop 0) = true := xc_cut 30 xc_124_0 (by rw [List.drop_drop]; exact xc_124_t30)
theorem xc_124 : xcok cX10_none xC124 = true := xc_124_t0
theorem xc_125_0 : xcok cX10_often ((xC125.drop 0).take 30) = true := by decide +kernel
theorem xc_125_30 : xcok cX10_often ((xC125.drop 30).take 30) = true := by decide +kernel
theorem xc_125_last : xcok cX10_often ((xC125.drop 30).drop 30) = true := by decide +kernel
theorem xc_125_t30 : xcok cX10_often (xC125.drop 30) = true := xc_cut 30 xc_125_30 xc_125_last
theorem xc_125_t0 : xcok cX10_often (xC125.drop 0) = true := xc_cut 30 xc_125_0 (by rw [List.drop_drop]; exact xc_125_t30)
theorem xc_125 : xcok cX10_often xC125 = true := xc_125_t0
theorem xc_126 : xcok cX10_seeds xC126 = true := by decide +kernel
theorem xc_127 : xcok cX10_kinds xC127 = true := by decide +kernel
theorem xc_128 : xcok cX10_guess xC128 = true := by decide +kernel
theorem xc_129_0 : xcok cX10_listen ((xC129.drop 0).take 30) = true := by decide +kernel
theorem xc_129_30 : xcok cX10_listen ((xC129.drop 30).take 30) = true := by decide +kernel
theorem xc_129_last : xcok cX10_listen ((xC129.drop 30).drop 30) = true := by decide +kernel
theorem xc_129_t30 : xcok cX10_listen (xC129.drop 30) = true := xc_cut 30 xc_129_30 xc_129_last
theorem xc_129_t0 : xcok cX10_listen (xC129.drop 0) = true := xc_cut 30 xc_129_0 (by rw [List.drop_drop]; exact xc_129_t30)
theorem xc_129 : xcok cX10_listen xC129 = true := xc_129_t0
theorem xc_130 : xcok cX10_duel xC130 = true := by decide +kernel
theorem xc_131 : xcok cX10_odds xC131 = true := by decide +kernel
theorem xc_132 : xcok cX10_mid xC132 = true := by decide +kernel
theorem xc_133_0 : xcok cX10_lots ((xC133.drop 0).take 30) = true := by decide +kernel
theorem xc_133_30 : xcok cX10_lots ((xC133.drop 30).take 30) = true := by decide +kernel
theorem xc_133_last : xcok cX10_lots ((xC133.drop 30).drop 30) = true := by decide +kernel
theorem xc_133_t30 : xcok cX10_lots (xC133.drop 30) = true := xc_cut 30 xc_133_30 xc_133_last
theorem xc_133_t0 : xcok cX10_lots (xC133.drop 0) = true := xc_cut 30 xc_133_0 (by rw [List.drop_drop]; exact xc_133_t30)
theorem xc_133 : xcok cX10_lots xC133 = true := xc_133_t0
theorem xc_134 : xcok cX10_asked xC134 = true := by decide +kernel
theorem xc_135 : xcok cX10_upper xC135 = true := by decide +kernel
theorem xc_136 : xcok cX10_lower xC136 = true := by decide +kernel
theorem xc_137_0 : xcok cX10_count ((xC137.drop 0).take 30) = true := by decide +kernel
theorem xc_137_30 : xcok cX10_count ((xC137.drop 30).take 30) = true := by decide +kernel
theorem xc_137_last : xcok cX10_count ((xC137.drop 30).drop 30) = true := by decide +kernel
theorem xc_137_t30 : xcok cX10_count (xC137.drop 30) = true := xc_cut 30 xc_137_30 xc_137_last
theorem xc_137_t0 : xcok cX10_count (xC137.drop 0) = true := xc_cut 30 xc_137_0 (by rw [List.drop_drop]; exact xc_137_t30)
theorem xc_137 : xcok cX10_count xC137 = true := xc_137_t0
theorem xc_138 : xcok cX10_finding xC138 = true := by decide +kernel
theorem xc_139 : xcok cX10_findings xC139 = true := by decide +kernel
theorem xc_140_0 : xcok cX10_digest ((xC140.drop 0).take 30) = true := by decide +kernel
theorem xc_140_30 : xcok cX10_digest ((xC140.drop 30).take 30) = true := by decide +kernel
theorem xc_140_60 : xcok cX10_digest ((xC140.drop 60).take 30) = true := by decide +kernel
theorem xc_140_last : xcok cX10_digest ((xC140.drop 60).drop 30) = true := by decide +kernel
theorem xc_140_t60 : xcok cX10_digest (xC140.drop 60) = true := xc_cut 30 xc_140_60 xc_140_last
theorem xc_140_t30 : xcok cX10_digest (xC140.drop 30) = true := xc_cut 30 xc_140_30 (by rw [List.drop_drop]; exact xc_140_t60)
theorem xc_140_t0 : xcok cX10_digest (xC140.drop 0) = true := xc_cut 30 xc_140_0 (by rw [List.drop_drop]; exact xc_140_t30)
theorem xc_140 : xcok cX10_digest xC140 = true := xc_140_t0
theorem xc_141 : xcok cX10_found xC141 = true := by decide +kernel
