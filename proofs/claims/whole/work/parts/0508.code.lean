theorem xc_237_150 : xcok cX11_digest ((xC237.drop 150).take 30) = true := by decide +kernel
theorem xc_237_last : xcok cX11_digest ((xC237.drop 150).drop 30) = true := by decide +kernel
theorem xc_237_t150 : xcok cX11_digest (xC237.drop 150) = true := xc_cut 30 xc_237_150 xc_237_last
theorem xc_237_t120 : xcok cX11_digest (xC237.drop 120) = true := xc_cut 30 xc_237_120 (by rw [List.drop_drop]; exact xc_237_t150)
theorem xc_237_t90 : xcok cX11_digest (xC237.drop 90) = true := xc_cut 30 xc_237_90 (by rw [List.drop_drop]; exact xc_237_t120)
theorem xc_237_t60 : xcok cX11_digest (xC237.drop 60) = true := xc_cut 30 xc_237_60 (by rw [List.drop_drop]; exact xc_237_t90)
theorem xc_237_t30 : xcok cX11_digest (xC237.drop 30) = true := xc_cut 30 xc_237_30 (by rw [List.drop_drop]; exact xc_237_t60)
theorem xc_237_t0 : xcok cX11_digest (xC237.drop 0) = true := xc_cut 30 xc_237_0 (by rw [List.drop_drop]; exact xc_237_t30)
theorem xc_237 : xcok cX11_digest xC237 = true := xc_237_t0
theorem xc_238_0 : xcok cJ6_bitCount_0f7a4 ((xC238.drop 0).take 30) = true := by decide +kernel
theorem xc_238_30 : xcok cJ6_bitCount_0f7a4 ((xC238.drop 30).take 30) = true := by decide +kernel
theorem xc_238_last : xcok cJ6_bitCount_0f7a4 ((xC238.drop 30).drop 30) = true := by decide +kernel
theorem xc_238_t30 : xcok cJ6_bitCount_0f7a4 (xC238.drop 30) = true := xc_cut 30 xc_238_30 xc_238_last
theorem xc_238_t0 : xcok cJ6_bitCount_0f7a4 (xC238.drop 0) = true := xc_cut 30 xc_238_0 (by rw [List.drop_drop]; exact xc_238_t30)
theorem xc_238 : xcok cJ6_bitCount_0f7a4 xC238 = true := xc_238_t0
theorem xc_239 : xcok cJ9_max_7cf53 xC239 = true := by decide +kernel
theorem xc_240 : xcok cJ9_min_7cf53 xC240 = true := by decide +kernel
theorem xc_241_0 : xcok cL_law ((xC241.drop 0).take 30) = true := by decide +kernel
theorem xc_241_30 : xcok cL_law ((xC241.drop 30).take 30) = true := by decide +kernel
theorem xc_241_60 : xcok cL_law ((xC241.drop 60).take 30) = true := by decide +kernel
theorem xc_241_90 : xcok cL_law ((xC241.drop 90).take 30) = true := by decide +kernel
theorem xc_241_120 : xcok cL_law ((xC241.drop 120).take 30) = true := by decide +kernel
theorem xc_241_150 : xcok cL_law ((xC241.drop 150).take 30) = true := by decide +kernel
theorem xc_241_180 : xcok cL_law ((xC241.drop 180).take 30) = true := by decide +kernel
theorem xc_241_210 : xcok cL_law ((xC241.drop 210).take 30) = true := by decide +kernel
theorem xc_241_240 : xcok cL_law ((xC241.drop 240).take 30) = true := by decide +kernel
theorem xc_241_270 : xcok cL_law ((xC241.drop 270).take 30) = true := by decide +kernel
theorem xc_241_300 : xcok cL_law ((xC241.drop 300).take 30) = true := by decide +kernel
theorem xc_241_330 : xcok cL_law ((xC241.drop 330).take 30) = true := by decide +kernel
theorem xc_241_360 : xcok cL_law ((xC241.drop 360).take 30) = true := by decide +kernel
theorem xc_241_390 : xcok cL_law ((xC241.drop 390).take 30) = true := by decide +kernel
theorem xc_241_420 : xcok cL_law ((xC241.drop 420).take 30) = true := by decide +kernel
theorem xc_241_450 : xcok cL_law ((xC241.drop 450).take 30) = true := by decide +kernel
theorem xc_241_480 : xcok cL_law ((xC241.drop 480).take 30) = true := by decide +kernel
theorem xc_241_510 : xcok cL_law ((xC241.drop 510).take 30) = true := by decide +kernel
theorem xc_241_540 : xcok cL_law ((xC241.drop 540).take 30) = true := by decide +kernel
theorem xc_241_570 : xcok cL_law ((xC241.drop 570).take 30) = true := by decide +kernel
theorem xc_241_600 : xcok cL_law ((xC241.drop 600).take 30) = true := by decide +kernel
theorem xc_241_630 : xcok cL_law ((xC241.drop 630).take 30) = true := by decide +kernel
theorem xc_241_660 : xcok cL_law ((xC241.drop 660).take 30) = true := by decide +kernel
theorem xc_241_690 : xcok cL_law ((xC241.drop 690).take 30) = true := by decide +kernel
theorem xc_241_720 : xcok cL_law ((xC241.drop 720).take 30) = true := by decide +kernel
theorem xc_241_750 : xcok cL_law ((xC241.drop 750).take 30) = true := by decide +kernel
theorem xc_241_780 : xcok cL_law ((xC241.drop 780).take 30) = true := by decide +kernel
theorem xc_241_810 : xcok cL_law ((xC241.drop 810).take 30) = true := by decide +kernel
