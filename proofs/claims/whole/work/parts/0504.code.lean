theorem xc_142 : xcok cX10_isPod xC142 = true := by decide +kernel
theorem xc_143 : xcok cX10_isWord xC143 = true := by decide +kernel
theorem xc_144 : xcok cX10_makeAnew xC144 = true := by decide +kernel
theorem xc_145 : xcok cX10_refusePlace xC145 = true := by decide +kernel
theorem xc_146_0 : xcok cX10_hearSaying ((xC146.drop 0).take 30) = true := by decide +kernel
theorem xc_146_30 : xcok cX10_hearSaying ((xC146.drop 30).take 30) = true := by decide +kernel
theorem xc_146_last : xcok cX10_hearSaying ((xC146.drop 30).drop 30) = true := by decide +kernel
theorem xc_146_t30 : xcok cX10_hearSaying (xC146.drop 30) = true := xc_cut 30 xc_146_30 xc_146_last
theorem xc_146_t0 : xcok cX10_hearSaying (xC146.drop 0) = true := xc_cut 30 xc_146_0 (by rw [List.drop_drop]; exact xc_146_t30)
theorem xc_146 : xcok cX10_hearSaying xC146 = true := xc_146_t0
theorem xc_147_0 : xcok cX10_hearPairs ((xC147.drop 0).take 30) = true := by decide +kernel
theorem xc_147_30 : xcok cX10_hearPairs ((xC147.drop 30).take 30) = true := by decide +kernel
theorem xc_147_last : xcok cX10_hearPairs ((xC147.drop 30).drop 30) = true := by decide +kernel
theorem xc_147_t30 : xcok cX10_hearPairs (xC147.drop 30) = true := xc_cut 30 xc_147_30 xc_147_last
theorem xc_147_t0 : xcok cX10_hearPairs (xC147.drop 0) = true := xc_cut 30 xc_147_0 (by rw [List.drop_drop]; exact xc_147_t30)
theorem xc_147 : xcok cX10_hearPairs xC147 = true := xc_147_t0
theorem xc_148_0 : xcok cX11_init ((xC148.drop 0).take 30) = true := by decide +kernel
theorem xc_148_30 : xcok cX11_init ((xC148.drop 30).take 30) = true := by decide +kernel
theorem xc_148_60 : xcok cX11_init ((xC148.drop 60).take 30) = true := by decide +kernel
theorem xc_148_90 : xcok cX11_init ((xC148.drop 90).take 30) = true := by decide +kernel
theorem xc_148_last : xcok cX11_init ((xC148.drop 90).drop 30) = true := by decide +kernel
theorem xc_148_t90 : xcok cX11_init (xC148.drop 90) = true := xc_cut 30 xc_148_90 xc_148_last
theorem xc_148_t60 : xcok cX11_init (xC148.drop 60) = true := xc_cut 30 xc_148_60 (by rw [List.drop_drop]; exact xc_148_t90)
theorem xc_148_t30 : xcok cX11_init (xC148.drop 30) = true := xc_cut 30 xc_148_30 (by rw [List.drop_drop]; exact xc_148_t60)
theorem xc_148_t0 : xcok cX11_init (xC148.drop 0) = true := xc_cut 30 xc_148_0 (by rw [List.drop_drop]; exact xc_148_t30)
theorem xc_148 : xcok cX11_init xC148 = true := xc_148_t0
theorem xc_149 : xcok cX11_in xC149 = true := by decide +kernel
theorem xc_150 : xcok cX11_has xC150 = true := by decide +kernel
theorem xc_151 : xcok cX11_bits xC151 = true := by decide +kernel
theorem xc_152 : xcok cX11_found xC152 = true := by decide +kernel
theorem xc_153 : xcok cX11_tell xC153 = true := by decide +kernel
theorem xc_154 : xcok cX11_answer xC154 = true := by decide +kernel
theorem xc_155 : xcok cX11_isRow xC155 = true := by decide +kernel
theorem xc_156 : xcok cX11_isText xC156 = true := by decide +kernel
theorem xc_157_0 : xcok cX11_row ((xC157.drop 0).take 30) = true := by decide +kernel
theorem xc_157_30 : xcok cX11_row ((xC157.drop 30).take 30) = true := by decide +kernel
theorem xc_157_last : xcok cX11_row ((xC157.drop 30).drop 30) = true := by decide +kernel
theorem xc_157_t30 : xcok cX11_row (xC157.drop 30) = true := xc_cut 30 xc_157_30 xc_157_last
theorem xc_157_t0 : xcok cX11_row (xC157.drop 0) = true := xc_cut 30 xc_157_0 (by rw [List.drop_drop]; exact xc_157_t30)
theorem xc_157 : xcok cX11_row xC157 = true := xc_157_t0
theorem xc_158_0 : xcok cX11_lay ((xC158.drop 0).take 30) = true := by decide +kernel
theorem xc_158_30 : xcok cX11_lay ((xC158.drop 30).take 30) = true := by decide +kernel
theorem xc_158_last : xcok cX11_lay ((xC158.drop 30).drop 30) = true := by decide +kernel
theorem xc_158_t30 : xcok cX11_lay (xC158.drop 30) = true := xc_cut 30 xc_158_30 xc_158_last
theorem xc_158_t0 : xcok cX11_lay (xC158.drop 0) = true := xc_cut 30 xc_158_0 (by rw [List.drop_drop]; exact xc_158_t30)
theorem xc_158 : xcok cX11_lay xC158 = true := xc_158_t0
theorem xc_159_0 : xcok cX11_at ((xC159.drop 0).take 30) = true := by decide +kernel
theorem xc_159_30 : xcok cX11_at ((xC159.drop 30).take 30) = true := by decide +kernel
theorem xc_159_last : xcok cX11_at ((xC159.drop 30).drop 30) = true := by decide +kernel
theorem xc_159_t30 : xcok cX11_at (xC159.drop 30) = true := xc_cut 30 xc_159_30 xc_159_last
theorem xc_159_t0 : xcok cX11_at (xC159.drop 0) = true := xc_cut 30 xc_159_0 (by rw [List.drop_drop]; exact xc_159_t30)
theorem xc_159 : xcok cX11_at xC159 = true := xc_159_t0
theorem xc_160 : xcok cX11_tear xC160 = true := by decide +kernel
theorem xc_161_0 : xcok cX11_copy ((xC161.drop 0).take 30) = true := by decide +kernel
theorem xc_161_30 : xcok cX11_copy ((xC161.drop 30).take 30) = true := by decide +kernel
theorem xc_161_60 : xcok cX11_copy ((xC161.drop 60).take 30) = true := by decide +kernel
theorem xc_161_90 : xcok cX11_copy ((xC161.drop 90).take 30) = true := by decide +kernel
theorem xc_161_last : xcok cX11_copy ((xC161.drop 90).drop 30) = true := by decide +kernel
theorem xc_161_t90 : xcok cX11_copy (xC161.drop 90) = true := xc_cut 30 xc_161_90 xc_161_last
theorem xc_161_t60 : xcok cX11_copy (xC161.drop 60) = true := xc_cut 30 xc_161_60 (by rw [List.drop_drop]; exact xc_161_t90)
theorem xc_161_t30 : xcok cX11_copy (xC161.drop 30) = true := xc_cut 30 xc_161_30 (by rw [List.drop_drop]; exact xc_161_t60)
theorem xc_161_t0 : xcok cX11_copy (xC161.drop 0) = true := xc_cut 30 xc_161_0 (by rw [List.drop_drop]; exact xc_161_t30)
theorem xc_161 : xcok cX11_copy xC161 = true := xc_161_t0
theorem xc_162_0 : xcok cX11_mean ((xC162.drop 0).take 30) = true := by decide +kernel
theorem xc_162_30 : xcok cX11_mean ((xC162.drop 30).take 30) = true := by decide +kernel
theorem xc_162_last : xcok cX11_mean ((xC162.drop 30).drop 30) = true := by decide +kernel
theorem xc_162_t30 : xcok cX11_mean (xC162.drop 30) = true := xc_cut 30 xc_162_30 xc_162_last
theorem xc_162_t0 : xcok cX11_mean (xC162.drop 0) = true := xc_cut 30 xc_162_0 (by rw [List.drop_drop]; exact xc_162_t30)
theorem xc_162 : xcok cX11_mean xC162 = true := xc_162_t0
theorem xc_163_0 : xcok cX11_text ((xC163.drop 0).take 30) = true := by decide +kernel
theorem xc_163_30 : xcok cX11_text ((xC163.drop 30).take 30) = true := by decide +kernel
theorem xc_163_last : xcok cX11_text ((xC163.drop 30).drop 30) = true := by decide +kernel
theorem xc_163_t30 : xcok cX11_text (xC163.drop 30) = true := xc_cut 30 xc_163_30 xc_163_last
theorem xc_163_t0 : xcok cX11_text (xC163.drop 0) = true := xc_cut 30 xc_163_0 (by rw [List.drop_drop]; exact xc_163_t30)
theorem xc_163 : xcok cX11_text xC163 = true := xc_163_t0
theorem xc_164_0 : xcok cX11_put ((xC164.drop 0).take 30) = true := by decide +kernel
theorem xc_164_30 : xcok cX11_put ((xC164.drop 30).take 30) = true := by decide +kernel
theorem xc_164_last : xcok cX11_put ((xC164.drop 30).drop 30) = true := by decide +kernel
theorem xc_164_t30 : xcok cX11_put (xC164.drop 30) = true := xc_cut 30 xc_164_30 xc_164_last
theorem xc_164_t0 : xcok cX11_put (xC164.drop 0) = true := xc_cut 30 xc_164_0 (by rw [List.drop_drop]; exact xc_164_t30)
theorem xc_164 : xcok cX11_put xC164 = true := xc_164_t0
theorem xc_165 : xcok cX11_byteAt xC165 = true := by decide +kernel
theorem xc_166 : xcok cX11_blanks xC166 = true := by decide +kernel
theorem xc_167_0 : xcok cX11_kindOf ((xC167.drop 0).take 30) = true := by decide +kernel
theorem xc_167_30 : xcok cX11_kindOf ((xC167.drop 30).take 30) = true := by decide +kernel
theorem xc_167_last : xcok cX11_kindOf ((xC167.drop 30).drop 30) = true := by decide +kernel
theorem xc_167_t30 : xcok cX11_kindOf (xC167.drop 30) = true := xc_cut 30 xc_167_30 xc_167_last
theorem xc_167_t0 : xcok cX11_kindOf (xC167.drop 0) = true := xc_cut 30 xc_167_0 (by rw [List.drop_drop]; exact xc_167_t30)
theorem xc_167 : xcok cX11_kindOf xC167 = true := xc_167_t0
theorem xc_168_0 : xcok cX11_readsPlant ((xC168.drop 0).take 30) = true := by decide +kernel
theorem xc_168_30 : xcok cX11_readsPlant ((xC168.drop 30).take 30) = true := by decide +kernel
theorem xc_168_60 : xcok cX11_readsPlant ((xC168.drop 60).take 30) = true := by decide +kernel
theorem xc_168_last : xcok cX11_readsPlant ((xC168.drop 60).drop 30) = true := by decide +kernel
theorem xc_168_t60 : xcok cX11_readsPlant (xC168.drop 60) = true := xc_cut 30 xc_168_60 xc_168_last
theorem xc_168_t30 : xcok cX11_readsPlant (xC168.drop 30) = true := xc_cut 30 xc_168_30 (by rw [List.drop_drop]; exact xc_168_t60)
theorem xc_168_t0 : xcok cX11_readsPlant (xC168.drop 0) = true := xc_cut 30 xc_168_0 (by rw [List.drop_drop]; exact xc_168_t30)
theorem xc_168 : xcok cX11_readsPlant xC168 = true := xc_168_t0
theorem xc_169_0 : xcok cX11_faultOf ((xC169.drop 0).take 30) = true := by decide +kernel
