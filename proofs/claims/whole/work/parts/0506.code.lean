theorem xc_200 : xcok cX11_pickable xC200 = true := by decide +kernel
theorem xc_201 : xcok cX11_nextWord xC201 = true := by decide +kernel
theorem xc_202_0 : xcok cX11_ripe ((xC202.drop 0).take 30) = true := by decide +kernel
theorem xc_202_30 : xcok cX11_ripe ((xC202.drop 30).take 30) = true := by decide +kernel
theorem xc_202_last : xcok cX11_ripe ((xC202.drop 30).drop 30) = true := by decide +kernel
theorem xc_202_t30 : xcok cX11_ripe (xC202.drop 30) = true := xc_cut 30 xc_202_30 xc_202_last
theorem xc_202_t0 : xcok cX11_ripe (xC202.drop 0) = true := xc_cut 30 xc_202_0 (by rw [List.drop_drop]; exact xc_202_t30)
theorem xc_202 : xcok cX11_ripe xC202 = true := xc_202_t0
theorem xc_203 : xcok cX11_whenBy xC203 = true := by decide +kernel
theorem xc_204 : xcok cX11_when xC204 = true := by decide +kernel
theorem xc_205_0 : xcok cX11_sooner ((xC205.drop 0).take 30) = true := by decide +kernel
theorem xc_205_30 : xcok cX11_sooner ((xC205.drop 30).take 30) = true := by decide +kernel
theorem xc_205_last : xcok cX11_sooner ((xC205.drop 30).drop 30) = true := by decide +kernel
theorem xc_205_t30 : xcok cX11_sooner (xC205.drop 30) = true := xc_cut 30 xc_205_30 xc_205_last
theorem xc_205_t0 : xcok cX11_sooner (xC205.drop 0) = true := xc_cut 30 xc_205_0 (by rw [List.drop_drop]; exact xc_205_t30)
theorem xc_205 : xcok cX11_sooner xC205 = true := xc_205_t0
theorem xc_206_0 : xcok cX11_refuses ((xC206.drop 0).take 30) = true := by decide +kernel
theorem xc_206_30 : xcok cX11_refuses ((xC206.drop 30).take 30) = true := by decide +kernel
theorem xc_206_last : xcok cX11_refuses ((xC206.drop 30).drop 30) = true := by decide +kernel
theorem xc_206_t30 : xcok cX11_refuses (xC206.drop 30) = true := xc_cut 30 xc_206_30 xc_206_last
theorem xc_206_t0 : xcok cX11_refuses (xC206.drop 0) = true := xc_cut 30 xc_206_0 (by rw [List.drop_drop]; exact xc_206_t30)
theorem xc_206 : xcok cX11_refuses xC206 = true := xc_206_t0
theorem xc_207 : xcok cX11_waysOf xC207 = true := by decide +kernel
theorem xc_208_0 : xcok cX11_wholeBy ((xC208.drop 0).take 30) = true := by decide +kernel
theorem xc_208_30 : xcok cX11_wholeBy ((xC208.drop 30).take 30) = true := by decide +kernel
theorem xc_208_60 : xcok cX11_wholeBy ((xC208.drop 60).take 30) = true := by decide +kernel
theorem xc_208_90 : xcok cX11_wholeBy ((xC208.drop 90).take 30) = true := by decide +kernel
theorem xc_208_last : xcok cX11_wholeBy ((xC208.drop 90).drop 30) = true := by decide +kernel
theorem xc_208_t90 : xcok cX11_wholeBy (xC208.drop 90) = true := xc_cut 30 xc_208_90 xc_208_last
theorem xc_208_t60 : xcok cX11_wholeBy (xC208.drop 60) = true := xc_cut 30 xc_208_60 (by rw [List.drop_drop]; exact xc_208_t90)
theorem xc_208_t30 : xcok cX11_wholeBy (xC208.drop 30) = true := xc_cut 30 xc_208_30 (by rw [List.drop_drop]; exact xc_208_t60)
theorem xc_208_t0 : xcok cX11_wholeBy (xC208.drop 0) = true := xc_cut 30 xc_208_0 (by rw [List.drop_drop]; exact xc_208_t30)
theorem xc_208 : xcok cX11_wholeBy xC208 = true := xc_208_t0
theorem xc_209_0 : xcok cX11_soonest ((xC209.drop 0).take 30) = true := by decide +kernel
theorem xc_209_30 : xcok cX11_soonest ((xC209.drop 30).take 30) = true := by decide +kernel
theorem xc_209_60 : xcok cX11_soonest ((xC209.drop 60).take 30) = true := by decide +kernel
theorem xc_209_last : xcok cX11_soonest ((xC209.drop 60).drop 30) = true := by decide +kernel
theorem xc_209_t60 : xcok cX11_soonest (xC209.drop 60) = true := xc_cut 30 xc_209_60 xc_209_last
theorem xc_209_t30 : xcok cX11_soonest (xC209.drop 30) = true := xc_cut 30 xc_209_30 (by rw [List.drop_drop]; exact xc_209_t60)
theorem xc_209_t0 : xcok cX11_soonest (xC209.drop 0) = true := xc_cut 30 xc_209_0 (by rw [List.drop_drop]; exact xc_209_t30)
theorem xc_209 : xcok cX11_soonest xC209 = true := xc_209_t0
theorem xc_210_0 : xcok cX11_goThrough ((xC210.drop 0).take 30) = true := by decide +kernel
theorem xc_210_30 : xcok cX11_goThrough ((xC210.drop 30).take 30) = true := by decide +kernel
theorem xc_210_60 : xcok cX11_goThrough ((xC210.drop 60).take 30) = true := by decide +kernel
theorem xc_210_90 : xcok cX11_goThrough ((xC210.drop 90).take 30) = true := by decide +kernel
theorem xc_210_last : xcok cX11_goThrough ((xC210.drop 90).drop 30) = true := by decide +kernel
theorem xc_210_t90 : xcok cX11_goThrough (xC210.drop 90) = true := xc_cut 30 xc_210_90 xc_210_last
theorem xc_210_t60 : xcok cX11_goThrough (xC210.drop 60) = true := xc_cut 30 xc_210_60 (by rw [List.drop_drop]; exact xc_210_t90)
theorem xc_210_t30 : xcok cX11_goThrough (xC210.drop 30) = true := xc_cut 30 xc_210_30 (by rw [List.drop_drop]; exact xc_210_t60)
theorem xc_210_t0 : xcok cX11_goThrough (xC210.drop 0) = true := xc_cut 30 xc_210_0 (by rw [List.drop_drop]; exact xc_210_t30)
theorem xc_210 : xcok cX11_goThrough xC210 = true := xc_210_t0
theorem xc_211 : xcok cX11_fraction xC211 = true := by decide +kernel
theorem xc_212 : xcok cX11_ways xC212 = true := by decide +kernel
theorem xc_213_0 : xcok cX11_none ((xC213.drop 0).take 30) = true := by decide +kernel
theorem xc_213_30 : xcok cX11_none ((xC213.drop 30).take 30) = true := by decide +kernel
theorem xc_213_last : xcok cX11_none ((xC213.drop 30).drop 30) = true := by decide +kernel
theorem xc_213_t30 : xcok cX11_none (xC213.drop 30) = true := xc_cut 30 xc_213_30 xc_213_last
theorem xc_213_t0 : xcok cX11_none (xC213.drop 0) = true := xc_cut 30 xc_213_0 (by rw [List.drop_drop]; exact xc_213_t30)
theorem xc_213 : xcok cX11_none xC213 = true := xc_213_t0
theorem xc_214_0 : xcok cX11_often ((xC214.drop 0).take 30) = true := by decide +kernel
theorem xc_214_30 : xcok cX11_often ((xC214.drop 30).take 30) = true := by decide +kernel
theorem xc_214_60 : xcok cX11_often ((xC214.drop 60).take 30) = true := by decide +kernel
theorem xc_214_last : xcok cX11_often ((xC214.drop 60).drop 30) = true := by decide +kernel
theorem xc_214_t60 : xcok cX11_often (xC214.drop 60) = true := xc_cut 30 xc_214_60 xc_214_last
theorem xc_214_t30 : xcok cX11_often (xC214.drop 30) = true := xc_cut 30 xc_214_30 (by rw [List.drop_drop]; exact xc_214_t60)
theorem xc_214_t0 : xcok cX11_often (xC214.drop 0) = true := xc_cut 30 xc_214_0 (by rw [List.drop_drop]; exact xc_214_t30)
theorem xc_214 : xcok cX11_often xC214 = true := xc_214_t0
theorem xc_215_0 : xcok cX11_wrongPairs ((xC215.drop 0).take 30) = true := by decide +kernel
theorem xc_215_30 : xcok cX11_wrongPairs ((xC215.drop 30).take 30) = true := by decide +kernel
theorem xc_215_60 : xcok cX11_wrongPairs ((xC215.drop 60).take 30) = true := by decide +kernel
theorem xc_215_last : xcok cX11_wrongPairs ((xC215.drop 60).drop 30) = true := by decide +kernel
theorem xc_215_t60 : xcok cX11_wrongPairs (xC215.drop 60) = true := xc_cut 30 xc_215_60 xc_215_last
theorem xc_215_t30 : xcok cX11_wrongPairs (xC215.drop 30) = true := xc_cut 30 xc_215_30 (by rw [List.drop_drop]; exact xc_215_t60)
theorem xc_215_t0 : xcok cX11_wrongPairs (xC215.drop 0) = true := xc_cut 30 xc_215_0 (by rw [List.drop_drop]; exact xc_215_t30)
theorem xc_215 : xcok cX11_wrongPairs xC215 = true := xc_215_t0
theorem xc_216_0 : xcok cX11_fitsBy ((xC216.drop 0).take 30) = true := by decide +kernel
theorem xc_216_30 : xcok cX11_fitsBy ((xC216.drop 30).take 30) = true := by decide +kernel
theorem xc_216_last : xcok cX11_fitsBy ((xC216.drop 30).drop 30) = true := by decide +kernel
theorem xc_216_t30 : xcok cX11_fitsBy (xC216.drop 30) = true := xc_cut 30 xc_216_30 xc_216_last
theorem xc_216_t0 : xcok cX11_fitsBy (xC216.drop 0) = true := xc_cut 30 xc_216_0 (by rw [List.drop_drop]; exact xc_216_t30)
theorem xc_216 : xcok cX11_fitsBy xC216 = true := xc_216_t0
theorem xc_217_0 : xcok cX11_seeds ((xC217.drop 0).take 30) = true := by decide +kernel
theorem xc_217_30 : xcok cX11_seeds ((xC217.drop 30).take 30) = true := by decide +kernel
theorem xc_217_last : xcok cX11_seeds ((xC217.drop 30).drop 30) = true := by decide +kernel
theorem xc_217_t30 : xcok cX11_seeds (xC217.drop 30) = true := xc_cut 30 xc_217_30 xc_217_last
theorem xc_217_t0 : xcok cX11_seeds (xC217.drop 0) = true := xc_cut 30 xc_217_0 (by rw [List.drop_drop]; exact xc_217_t30)
theorem xc_217 : xcok cX11_seeds xC217 = true := xc_217_t0
theorem xc_218_0 : xcok cX11_kinds ((xC218.drop 0).take 30) = true := by decide +kernel
theorem xc_218_30 : xcok cX11_kinds ((xC218.drop 30).take 30) = true := by decide +kernel
theorem xc_218_last : xcok cX11_kinds ((xC218.drop 30).drop 30) = true := by decide +kernel
theorem xc_218_t30 : xcok cX11_kinds (xC218.drop 30) = true := xc_cut 30 xc_218_30 xc_218_last
theorem xc_218_t0 : xcok cX11_kinds (xC218.drop 0) = true := xc_cut 30 xc_218_0 (by rw [List.drop_drop]; exact xc_218_t30)
theorem xc_218 : xcok cX11_kinds xC218 = true := xc_218_t0
theorem xc_219_0 : xcok cX11_laySays ((xC219.drop 0).take 30) = true := by decide +kernel
