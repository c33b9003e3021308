theorem xc_219_30 : xcok cX11_laySays ((xC219.drop 30).take 30) = true := by decide +kernel
theorem xc_219_60 : xcok cX11_laySays ((xC219.drop 60).take 30) = true := by decide +kernel
theorem xc_219_last : xcok cX11_laySays ((xC219.drop 60).drop 30) = true := by decide +kernel
theorem xc_219_t60 : xcok cX11_laySays (xC219.drop 60) = true := xc_cut 30 xc_219_60 xc_219_last
theorem xc_219_t30 : xcok cX11_laySays (xC219.drop 30) = true := xc_cut 30 xc_219_30 (by rw [List.drop_drop]; exact xc_219_t60)
theorem xc_219_t0 : xcok cX11_laySays (xC219.drop 0) = true := xc_cut 30 xc_219_0 (by rw [List.drop_drop]; exact xc_219_t30)
theorem xc_219 : xcok cX11_laySays xC219 = true := xc_219_t0
theorem xc_220_0 : xcok cX11_guess ((xC220.drop 0).take 30) = true := by decide +kernel
theorem xc_220_30 : xcok cX11_guess ((xC220.drop 30).take 30) = true := by decide +kernel
theorem xc_220_last : xcok cX11_guess ((xC220.drop 30).drop 30) = true := by decide +kernel
theorem xc_220_t30 : xcok cX11_guess (xC220.drop 30) = true := xc_cut 30 xc_220_30 xc_220_last
theorem xc_220_t0 : xcok cX11_guess (xC220.drop 0) = true := xc_cut 30 xc_220_0 (by rw [List.drop_drop]; exact xc_220_t30)
theorem xc_220 : xcok cX11_guess xC220 = true := xc_220_t0
theorem xc_221_0 : xcok cX11_listen ((xC221.drop 0).take 30) = true := by decide +kernel
theorem xc_221_30 : xcok cX11_listen ((xC221.drop 30).take 30) = true := by decide +kernel
theorem xc_221_last : xcok cX11_listen ((xC221.drop 30).drop 30) = true := by decide +kernel
theorem xc_221_t30 : xcok cX11_listen (xC221.drop 30) = true := xc_cut 30 xc_221_30 xc_221_last
theorem xc_221_t0 : xcok cX11_listen (xC221.drop 0) = true := xc_cut 30 xc_221_0 (by rw [List.drop_drop]; exact xc_221_t30)
theorem xc_221 : xcok cX11_listen xC221 = true := xc_221_t0
theorem xc_222_0 : xcok cX11_weighs ((xC222.drop 0).take 30) = true := by decide +kernel
theorem xc_222_30 : xcok cX11_weighs ((xC222.drop 30).take 30) = true := by decide +kernel
theorem xc_222_last : xcok cX11_weighs ((xC222.drop 30).drop 30) = true := by decide +kernel
theorem xc_222_t30 : xcok cX11_weighs (xC222.drop 30) = true := xc_cut 30 xc_222_30 xc_222_last
theorem xc_222_t0 : xcok cX11_weighs (xC222.drop 0) = true := xc_cut 30 xc_222_0 (by rw [List.drop_drop]; exact xc_222_t30)
theorem xc_222 : xcok cX11_weighs xC222 = true := xc_222_t0
theorem xc_223_0 : xcok cX11_duel ((xC223.drop 0).take 30) = true := by decide +kernel
theorem xc_223_30 : xcok cX11_duel ((xC223.drop 30).take 30) = true := by decide +kernel
theorem xc_223_60 : xcok cX11_duel ((xC223.drop 60).take 30) = true := by decide +kernel
theorem xc_223_90 : xcok cX11_duel ((xC223.drop 90).take 30) = true := by decide +kernel
theorem xc_223_120 : xcok cX11_duel ((xC223.drop 120).take 30) = true := by decide +kernel
theorem xc_223_150 : xcok cX11_duel ((xC223.drop 150).take 30) = true := by decide +kernel
theorem xc_223_last : xcok cX11_duel ((xC223.drop 150).drop 30) = true := by decide +kernel
theorem xc_223_t150 : xcok cX11_duel (xC223.drop 150) = true := xc_cut 30 xc_223_150 xc_223_last
theorem xc_223_t120 : xcok cX11_duel (xC223.drop 120) = true := xc_cut 30 xc_223_120 (by rw [List.drop_drop]; exact xc_223_t150)
theorem xc_223_t90 : xcok cX11_duel (xC223.drop 90) = true := xc_cut 30 xc_223_90 (by rw [List.drop_drop]; exact xc_223_t120)
theorem xc_223_t60 : xcok cX11_duel (xC223.drop 60) = true := xc_cut 30 xc_223_60 (by rw [List.drop_drop]; exact xc_223_t90)
theorem xc_223_t30 : xcok cX11_duel (xC223.drop 30) = true := xc_cut 30 xc_223_30 (by rw [List.drop_drop]; exact xc_223_t60)
theorem xc_223_t0 : xcok cX11_duel (xC223.drop 0) = true := xc_cut 30 xc_223_0 (by rw [List.drop_drop]; exact xc_223_t30)
theorem xc_223 : xcok cX11_duel xC223 = true := xc_223_t0
theorem xc_224 : xcok cX11_power xC224 = true := by decide +kernel
theorem xc_225_0 : xcok cX11_chances ((xC225.drop 0).take 30) = true := by decide +kernel
theorem xc_225_30 : xcok cX11_chances ((xC225.drop 30).take 30) = true := by decide +kernel
theorem xc_225_60 : xcok cX11_chances ((xC225.drop 60).take 30) = true := by decide +kernel
theorem xc_225_last : xcok cX11_chances ((xC225.drop 60).drop 30) = true := by decide +kernel
theorem xc_225_t60 : xcok cX11_chances (xC225.drop 60) = true := xc_cut 30 xc_225_60 xc_225_last
theorem xc_225_t30 : xcok cX11_chances (xC225.drop 30) = true := xc_cut 30 xc_225_30 (by rw [List.drop_drop]; exact xc_225_t60)
theorem xc_225_t0 : xcok cX11_chances (xC225.drop 0) = true := xc_cut 30 xc_225_0 (by rw [List.drop_drop]; exact xc_225_t30)
theorem xc_225 : xcok cX11_chances xC225 = true := xc_225_t0
theorem xc_226 : xcok cX11_odds xC226 = true := by decide +kernel
theorem xc_227 : xcok cX11_mid xC227 = true := by decide +kernel
theorem xc_228_0 : xcok cX11_lots ((xC228.drop 0).take 30) = true := by decide +kernel
theorem xc_228_30 : xcok cX11_lots ((xC228.drop 30).take 30) = true := by decide +kernel
theorem xc_228_60 : xcok cX11_lots ((xC228.drop 60).take 30) = true := by decide +kernel
theorem xc_228_90 : xcok cX11_lots ((xC228.drop 90).take 30) = true := by decide +kernel
theorem xc_228_last : xcok cX11_lots ((xC228.drop 90).drop 30) = true := by decide +kernel
theorem xc_228_t90 : xcok cX11_lots (xC228.drop 90) = true := xc_cut 30 xc_228_90 xc_228_last
theorem xc_228_t60 : xcok cX11_lots (xC228.drop 60) = true := xc_cut 30 xc_228_60 (by rw [List.drop_drop]; exact xc_228_t90)
theorem xc_228_t30 : xcok cX11_lots (xC228.drop 30) = true := xc_cut 30 xc_228_30 (by rw [List.drop_drop]; exact xc_228_t60)
theorem xc_228_t0 : xcok cX11_lots (xC228.drop 0) = true := xc_cut 30 xc_228_0 (by rw [List.drop_drop]; exact xc_228_t30)
theorem xc_228 : xcok cX11_lots xC228 = true := xc_228_t0
theorem xc_229 : xcok cX11_asked xC229 = true := by decide +kernel
theorem xc_230 : xcok cX11_upper xC230 = true := by decide +kernel
theorem xc_231 : xcok cX11_lower xC231 = true := by decide +kernel
theorem xc_232 : xcok cX11_sumOf xC232 = true := by decide +kernel
theorem xc_233_0 : xcok cX11_counted ((xC233.drop 0).take 30) = true := by decide +kernel
theorem xc_233_30 : xcok cX11_counted ((xC233.drop 30).take 30) = true := by decide +kernel
theorem xc_233_60 : xcok cX11_counted ((xC233.drop 60).take 30) = true := by decide +kernel
theorem xc_233_90 : xcok cX11_counted ((xC233.drop 90).take 30) = true := by decide +kernel
theorem xc_233_last : xcok cX11_counted ((xC233.drop 90).drop 30) = true := by decide +kernel
theorem xc_233_t90 : xcok cX11_counted (xC233.drop 90) = true := xc_cut 30 xc_233_90 xc_233_last
theorem xc_233_t60 : xcok cX11_counted (xC233.drop 60) = true := xc_cut 30 xc_233_60 (by rw [List.drop_drop]; exact xc_233_t90)
theorem xc_233_t30 : xcok cX11_counted (xC233.drop 30) = true := xc_cut 30 xc_233_30 (by rw [List.drop_drop]; exact xc_233_t60)
theorem xc_233_t0 : xcok cX11_counted (xC233.drop 0) = true := xc_cut 30 xc_233_0 (by rw [List.drop_drop]; exact xc_233_t30)
theorem xc_233 : xcok cX11_counted xC233 = true := xc_233_t0
theorem xc_234 : xcok cX11_count xC234 = true := by decide +kernel
theorem xc_235 : xcok cX11_finding xC235 = true := by decide +kernel
theorem xc_236 : xcok cX11_findings xC236 = true := by decide +kernel
theorem xc_237_0 : xcok cX11_digest ((xC237.drop 0).take 30) = true := by decide +kernel
theorem xc_237_30 : xcok cX11_digest ((xC237.drop 30).take 30) = true := by decide +kernel
theorem xc_237_60 : xcok cX11_digest ((xC237.drop 60).take 30) = true := by decide +kernel
theorem xc_237_90 : xcok cX11_digest ((xC237.drop 90).take 30) = true := by decide +kernel
theorem xc_237_120 : xcok cX11_digest ((xC237.drop 120).take 30) = true := by decide +kernel
