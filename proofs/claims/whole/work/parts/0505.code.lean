theorem xc_169_30 : xcok cX11_faultOf ((xC169.drop 30).take 30) = true := by decide +kernel
theorem xc_169_last : xcok cX11_faultOf ((xC169.drop 30).drop 30) = true := by decide +kernel
theorem xc_169_t30 : xcok cX11_faultOf (xC169.drop 30) = true := xc_cut 30 xc_169_30 xc_169_last
theorem xc_169_t0 : xcok cX11_faultOf (xC169.drop 0) = true := xc_cut 30 xc_169_0 (by rw [List.drop_drop]; exact xc_169_t30)
theorem xc_169 : xcok cX11_faultOf xC169 = true := xc_169_t0
theorem xc_170 : xcok cX11_fault xC170 = true := by decide +kernel
theorem xc_171_0 : xcok cX11_garden ((xC171.drop 0).take 30) = true := by decide +kernel
theorem xc_171_30 : xcok cX11_garden ((xC171.drop 30).take 30) = true := by decide +kernel
theorem xc_171_60 : xcok cX11_garden ((xC171.drop 60).take 30) = true := by decide +kernel
theorem xc_171_90 : xcok cX11_garden ((xC171.drop 90).take 30) = true := by decide +kernel
theorem xc_171_last : xcok cX11_garden ((xC171.drop 90).drop 30) = true := by decide +kernel
theorem xc_171_t90 : xcok cX11_garden (xC171.drop 90) = true := xc_cut 30 xc_171_90 xc_171_last
theorem xc_171_t60 : xcok cX11_garden (xC171.drop 60) = true := xc_cut 30 xc_171_60 (by rw [List.drop_drop]; exact xc_171_t90)
theorem xc_171_t30 : xcok cX11_garden (xC171.drop 30) = true := xc_cut 30 xc_171_30 (by rw [List.drop_drop]; exact xc_171_t60)
theorem xc_171_t0 : xcok cX11_garden (xC171.drop 0) = true := xc_cut 30 xc_171_0 (by rw [List.drop_drop]; exact xc_171_t30)
theorem xc_171 : xcok cX11_garden xC171 = true := xc_171_t0
theorem xc_172 : xcok cX11_isPlant xC172 = true := by decide +kernel
theorem xc_173 : xcok cX11_isPod xC173 = true := by decide +kernel
theorem xc_174 : xcok cX11_nine xC174 = true := by decide +kernel
theorem xc_175 : xcok cX11_isOf xC175 = true := by decide +kernel
theorem xc_176 : xcok cX11_ageOf xC176 = true := by decide +kernel
theorem xc_177_0 : xcok cX11_ripePods ((xC177.drop 0).take 30) = true := by decide +kernel
theorem xc_177_30 : xcok cX11_ripePods ((xC177.drop 30).take 30) = true := by decide +kernel
theorem xc_177_last : xcok cX11_ripePods ((xC177.drop 30).drop 30) = true := by decide +kernel
theorem xc_177_t30 : xcok cX11_ripePods (xC177.drop 30) = true := xc_cut 30 xc_177_30 xc_177_last
theorem xc_177_t0 : xcok cX11_ripePods (xC177.drop 0) = true := xc_cut 30 xc_177_0 (by rw [List.drop_drop]; exact xc_177_t30)
theorem xc_177 : xcok cX11_ripePods xC177 = true := xc_177_t0
theorem xc_178 : xcok cX11_ripeNow xC178 = true := by decide +kernel
theorem xc_179_0 : xcok cX11_wordOf ((xC179.drop 0).take 30) = true := by decide +kernel
theorem xc_179_30 : xcok cX11_wordOf ((xC179.drop 30).take 30) = true := by decide +kernel
theorem xc_179_last : xcok cX11_wordOf ((xC179.drop 30).drop 30) = true := by decide +kernel
theorem xc_179_t30 : xcok cX11_wordOf (xC179.drop 30) = true := xc_cut 30 xc_179_30 xc_179_last
theorem xc_179_t0 : xcok cX11_wordOf (xC179.drop 0) = true := xc_cut 30 xc_179_0 (by rw [List.drop_drop]; exact xc_179_t30)
theorem xc_179 : xcok cX11_wordOf xC179 = true := xc_179_t0
theorem xc_180 : xcok cX11_wordAt xC180 = true := by decide +kernel
theorem xc_181_0 : xcok cX11_mayBe ((xC181.drop 0).take 30) = true := by decide +kernel
theorem xc_181_30 : xcok cX11_mayBe ((xC181.drop 30).take 30) = true := by decide +kernel
theorem xc_181_last : xcok cX11_mayBe ((xC181.drop 30).drop 30) = true := by decide +kernel
theorem xc_181_t30 : xcok cX11_mayBe (xC181.drop 30) = true := xc_cut 30 xc_181_30 xc_181_last
theorem xc_181_t0 : xcok cX11_mayBe (xC181.drop 0) = true := xc_cut 30 xc_181_0 (by rw [List.drop_drop]; exact xc_181_t30)
theorem xc_181 : xcok cX11_mayBe xC181 = true := xc_181_t0
theorem xc_182 : xcok cX11_mayToday xC182 = true := by decide +kernel
theorem xc_183 : xcok cX11_mayPick xC183 = true := by decide +kernel
theorem xc_184_0 : xcok cX11_told ((xC184.drop 0).take 30) = true := by decide +kernel
theorem xc_184_30 : xcok cX11_told ((xC184.drop 30).take 30) = true := by decide +kernel
theorem xc_184_last : xcok cX11_told ((xC184.drop 30).drop 30) = true := by decide +kernel
theorem xc_184_t30 : xcok cX11_told (xC184.drop 30) = true := xc_cut 30 xc_184_30 xc_184_last
theorem xc_184_t0 : xcok cX11_told (xC184.drop 0) = true := xc_cut 30 xc_184_0 (by rw [List.drop_drop]; exact xc_184_t30)
theorem xc_184 : xcok cX11_told xC184 = true := xc_184_t0
theorem xc_185 : xcok cX11_plant xC185 = true := by decide +kernel
theorem xc_186_0 : xcok cX11_mark ((xC186.drop 0).take 30) = true := by decide +kernel
theorem xc_186_30 : xcok cX11_mark ((xC186.drop 30).take 30) = true := by decide +kernel
theorem xc_186_60 : xcok cX11_mark ((xC186.drop 60).take 30) = true := by decide +kernel
theorem xc_186_90 : xcok cX11_mark ((xC186.drop 90).take 30) = true := by decide +kernel
theorem xc_186_last : xcok cX11_mark ((xC186.drop 90).drop 30) = true := by decide +kernel
theorem xc_186_t90 : xcok cX11_mark (xC186.drop 90) = true := xc_cut 30 xc_186_90 xc_186_last
theorem xc_186_t60 : xcok cX11_mark (xC186.drop 60) = true := xc_cut 30 xc_186_60 (by rw [List.drop_drop]; exact xc_186_t90)
theorem xc_186_t30 : xcok cX11_mark (xC186.drop 30) = true := xc_cut 30 xc_186_30 (by rw [List.drop_drop]; exact xc_186_t60)
theorem xc_186_t0 : xcok cX11_mark (xC186.drop 0) = true := xc_cut 30 xc_186_0 (by rw [List.drop_drop]; exact xc_186_t30)
theorem xc_186 : xcok cX11_mark xC186 = true := xc_186_t0
theorem xc_187 : xcok cX11_word xC187 = true := by decide +kernel
theorem xc_188 : xcok cX11_copies xC188 = true := by decide +kernel
theorem xc_189 : xcok cX11_remember xC189 = true := by decide +kernel
theorem xc_190 : xcok cX11_day xC190 = true := by decide +kernel
theorem xc_191 : xcok cX11_mayWater xC191 = true := by decide +kernel
theorem xc_192_0 : xcok cX11_water ((xC192.drop 0).take 30) = true := by decide +kernel
theorem xc_192_30 : xcok cX11_water ((xC192.drop 30).take 30) = true := by decide +kernel
theorem xc_192_last : xcok cX11_water ((xC192.drop 30).drop 30) = true := by decide +kernel
theorem xc_192_t30 : xcok cX11_water (xC192.drop 30) = true := xc_cut 30 xc_192_30 xc_192_last
theorem xc_192_t0 : xcok cX11_water (xC192.drop 0) = true := xc_cut 30 xc_192_0 (by rw [List.drop_drop]; exact xc_192_t30)
theorem xc_192 : xcok cX11_water xC192 = true := xc_192_t0
theorem xc_193 : xcok cX11_picks xC193 = true := by decide +kernel
theorem xc_194 : xcok cX11_pick xC194 = true := by decide +kernel
theorem xc_195 : xcok cX11_left xC195 = true := by decide +kernel
theorem xc_196_0 : xcok cX11_goat ((xC196.drop 0).take 30) = true := by decide +kernel
theorem xc_196_30 : xcok cX11_goat ((xC196.drop 30).take 30) = true := by decide +kernel
theorem xc_196_last : xcok cX11_goat ((xC196.drop 30).drop 30) = true := by decide +kernel
theorem xc_196_t30 : xcok cX11_goat (xC196.drop 30) = true := xc_cut 30 xc_196_30 xc_196_last
theorem xc_196_t0 : xcok cX11_goat (xC196.drop 0) = true := xc_cut 30 xc_196_0 (by rw [List.drop_drop]; exact xc_196_t30)
theorem xc_196 : xcok cX11_goat xC196 = true := xc_196_t0
theorem xc_197_0 : xcok cX11_undo ((xC197.drop 0).take 30) = true := by decide +kernel
theorem xc_197_30 : xcok cX11_undo ((xC197.drop 30).take 30) = true := by decide +kernel
theorem xc_197_last : xcok cX11_undo ((xC197.drop 30).drop 30) = true := by decide +kernel
theorem xc_197_t30 : xcok cX11_undo (xC197.drop 30) = true := xc_cut 30 xc_197_30 xc_197_last
theorem xc_197_t0 : xcok cX11_undo (xC197.drop 0) = true := xc_cut 30 xc_197_0 (by rw [List.drop_drop]; exact xc_197_t30)
theorem xc_197 : xcok cX11_undo xC197 = true := xc_197_t0
theorem xc_198_0 : xcok cX11_keep ((xC198.drop 0).take 30) = true := by decide +kernel
theorem xc_198_30 : xcok cX11_keep ((xC198.drop 30).take 30) = true := by decide +kernel
theorem xc_198_last : xcok cX11_keep ((xC198.drop 30).drop 30) = true := by decide +kernel
theorem xc_198_t30 : xcok cX11_keep (xC198.drop 30) = true := xc_cut 30 xc_198_30 xc_198_last
theorem xc_198_t0 : xcok cX11_keep (xC198.drop 0) = true := xc_cut 30 xc_198_0 (by rw [List.drop_drop]; exact xc_198_t30)
theorem xc_198 : xcok cX11_keep xC198 = true := xc_198_t0
theorem xc_199_0 : xcok cX11_on ((xC199.drop 0).take 30) = true := by decide +kernel
theorem xc_199_30 : xcok cX11_on ((xC199.drop 30).take 30) = true := by decide +kernel
theorem xc_199_last : xcok cX11_on ((xC199.drop 30).drop 30) = true := by decide +kernel
theorem xc_199_t30 : xcok cX11_on (xC199.drop 30) = true := xc_cut 30 xc_199_30 xc_199_last
theorem xc_199_t0 : xcok cX11_on (xC199.drop 0) = true := xc_cut 30 xc_199_0 (by rw [List.drop_drop]; exact xc_199_t30)
theorem xc_199 : xcok cX11_on xC199 = true := xc_199_t0
