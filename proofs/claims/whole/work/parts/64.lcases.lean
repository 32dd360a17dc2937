/-! THE LAW: its cases -/
theorem wlL_132 : Cond.methodLink RL 132 yL_humidity ∈ gT := gT_in 420 (by decide +kernel) rfl
theorem wt_X9_humidity : gMv yX9_humidity cX9_humidity 4 (some .int) 2 := ⟨gT_in 1271 (by decide +kernel) rfl, gT_in 1272 (by decide +kernel) rfl, gT_in 69 (by decide +kernel) rfl, gT_in 1273 (by decide +kernel) rfl, by decide, by decide, by decide +kernel⟩
theorem wl_RL_137 : Cond.methodLink RL 137 yX9_humidity ∈ gT := gT_in 1270 (by decide +kernel) rfl
theorem wt_X9_thrown : gMv yX9_thrown cX9_thrown 1 (some .int) 0 := ⟨gT_in 1267 (by decide +kernel) rfl, gT_in 1268 (by decide +kernel) rfl, gT_in 69 (by decide +kernel) rfl, gT_in 1269 (by decide +kernel) rfl, by decide, by decide, by decide +kernel⟩
theorem wl_RL_138 : Cond.methodLink RL 138 yX9_thrown ∈ gT := gT_in 1266 (by decide +kernel) rfl
theorem wlL_141 : Cond.methodLink RL 141 yL_humidityIn ∈ gT := gT_in 556 (by decide +kernel) rfl
theorem wt_X9_humidityIn : gMv yX9_humidityIn cX9_humidityIn 2 (some .int) 1 := ⟨gT_in 1297 (by decide +kernel) rfl, gT_in 1298 (by decide +kernel) rfl, gT_in 69 (by decide +kernel) rfl, gT_in 1299 (by decide +kernel) rfl, by decide, by decide, by decide +kernel⟩
theorem wl_RL_144 : Cond.methodLink RL 144 yX9_humidityIn ∈ gT := gT_in 1296 (by decide +kernel) rfl
theorem wlL_145 : Cond.methodLink RL 145 yL_buy ∈ gT := gT_in 568 (by decide +kernel) rfl
theorem wt_X9_buy : gMv yX9_buy cX9_buy 3 (some .int) 2 := ⟨gT_in 1305 (by decide +kernel) rfl, gT_in 1306 (by decide +kernel) rfl, gT_in 69 (by decide +kernel) rfl, gT_in 1307 (by decide +kernel) rfl, by decide, by decide, by decide +kernel⟩
theorem wl_RL_147 : Cond.methodLink RL 147 yX9_buy ∈ gT := gT_in 1304 (by decide +kernel) rfl
theorem wlL_148 : Cond.methodLink RL 148 yL_stock ∈ gT := gT_in 616 (by decide +kernel) rfl
theorem wt_X9_stock : gMv yX9_stock cX9_stock 2 (some .int) 1 := ⟨gT_in 1320 (by decide +kernel) rfl, gT_in 1321 (by decide +kernel) rfl, gT_in 69 (by decide +kernel) rfl, gT_in 1322 (by decide +kernel) rfl, by decide, by decide, by decide +kernel⟩
theorem wl_RL_150 : Cond.methodLink RL 150 yX9_stock ∈ gT := gT_in 1319 (by decide +kernel) rfl
theorem wlL_151 : Cond.methodLink RL 151 yL_tongs ∈ gT := gT_in 625 (by decide +kernel) rfl
theorem wt_X9_tongs : gMv yX9_tongs cX9_tongs 3 (some .int) 1 := ⟨gT_in 1324 (by decide +kernel) rfl, gT_in 1325 (by decide +kernel) rfl, gT_in 69 (by decide +kernel) rfl, gT_in 1326 (by decide +kernel) rfl, by decide, by decide, by decide +kernel⟩
theorem wl_RL_153 : Cond.methodLink RL 153 yX9_tongs ∈ gT := gT_in 1323 (by decide +kernel) rfl
theorem wlL_154 : Cond.methodLink RL 154 yL_tongsOf ∈ gT := gT_in 643 (by decide +kernel) rfl
theorem wt_X9_tongsOf : gMv yX9_tongsOf cX9_tongsOf 3 (some .int) 2 := ⟨gT_in 1328 (by decide +kernel) rfl, gT_in 1329 (by decide +kernel) rfl, gT_in 69 (by decide +kernel) rfl, gT_in 1330 (by decide +kernel) rfl, by decide, by decide, by decide +kernel⟩
theorem wl_RL_156 : Cond.methodLink RL 156 yX9_tongsOf ∈ gT := gT_in 1327 (by decide +kernel) rfl
theorem wlL_157 : Cond.methodLink RL 157 yL_tongsFor ∈ gT := gT_in 660 (by decide +kernel) rfl
theorem wt_X9_tongsFor : gMv yX9_tongsFor cX9_tongsFor 5 (some .int) 1 := ⟨gT_in 1336 (by decide +kernel) rfl, gT_in 1337 (by decide +kernel) rfl, gT_in 69 (by decide +kernel) rfl, gT_in 1338 (by decide +kernel) rfl, by decide, by decide, by decide +kernel⟩
theorem wl_RL_159 : Cond.methodLink RL 159 yX9_tongsFor ∈ gT := gT_in 1335 (by decide +kernel) rfl
theorem wlL_160 : Cond.methodLink RL 160 yL_tower ∈ gT := gT_in 689 (by decide +kernel) rfl
theorem wt_X9_tower : gMv yX9_tower cX9_tower 2 (some .int) 0 := ⟨gT_in 1340 (by decide +kernel) rfl, gT_in 1341 (by decide +kernel) rfl, gT_in 69 (by decide +kernel) rfl, gT_in 1342 (by decide +kernel) rfl, by decide, by decide, by decide +kernel⟩
theorem wl_RL_163 : Cond.methodLink RL 163 yX9_tower ∈ gT := gT_in 1339 (by decide +kernel) rfl
theorem wlL_164 : Cond.methodLink RL 164 yL_lay ∈ gT := gT_in 705 (by decide +kernel) rfl
theorem wt_X9_lay : gMv yX9_lay cX9_lay 5 (some .int) 4 := ⟨gT_in 1344 (by decide +kernel) rfl, gT_in 1345 (by decide +kernel) rfl, gT_in 69 (by decide +kernel) rfl, gT_in 1346 (by decide +kernel) rfl, by decide, by decide, by decide +kernel⟩
theorem wl_RL_167 : Cond.methodLink RL 167 yX9_lay ∈ gT := gT_in 1343 (by decide +kernel) rfl
theorem wlL_168 : Cond.methodLink RL 168 yL_why ∈ gT := gT_in 760 (by decide +kernel) rfl
theorem wt_X9_why : gMv yX9_why cX9_why 5 (some .int) 4 := ⟨gT_in 1383 (by decide +kernel) rfl, gT_in 1384 (by decide +kernel) rfl, gT_in 69 (by decide +kernel) rfl, gT_in 1385 (by decide +kernel) rfl, by decide, by decide, by decide +kernel⟩
theorem wl_RL_170 : Cond.methodLink RL 170 yX9_why ∈ gT := gT_in 1382 (by decide +kernel) rfl
theorem wlL_171 : Cond.methodLink RL 171 yL_take ∈ gT := gT_in 767 (by decide +kernel) rfl
theorem wt_X9_take : gMv yX9_take cX9_take 2 (some .int) 1 := ⟨gT_in 1387 (by decide +kernel) rfl, gT_in 1388 (by decide +kernel) rfl, gT_in 69 (by decide +kernel) rfl, gT_in 1389 (by decide +kernel) rfl, by decide, by decide, by decide +kernel⟩
theorem wl_RL_173 : Cond.methodLink RL 173 yX9_take ∈ gT := gT_in 1386 (by decide +kernel) rfl
theorem wlL_174 : Cond.methodLink RL 174 yL_courseOf ∈ gT := gT_in 789 (by decide +kernel) rfl
theorem wt_X9_courseOf : gMv yX9_courseOf cX9_courseOf 4 (some .int) 3 := ⟨gT_in 1395 (by decide +kernel) rfl, gT_in 1396 (by decide +kernel) rfl, gT_in 69 (by decide +kernel) rfl, gT_in 1397 (by decide +kernel) rfl, by decide, by decide, by decide +kernel⟩
theorem wl_RL_177 : Cond.methodLink RL 177 yX9_courseOf ∈ gT := gT_in 1394 (by decide +kernel) rfl
theorem wlL_178 : Cond.methodLink RL 178 yL_bearsAgain ∈ gT := gT_in 807 (by decide +kernel) rfl
theorem wt_X9_bearsAgain : gMv yX9_bearsAgain cX9_bearsAgain 6 (some .int) 2 := ⟨gT_in 1403 (by decide +kernel) rfl, gT_in 1404 (by decide +kernel) rfl, gT_in 69 (by decide +kernel) rfl, gT_in 1405 (by decide +kernel) rfl, by decide, by decide, by decide +kernel⟩
theorem wl_RL_180 : Cond.methodLink RL 180 yX9_bearsAgain ∈ gT := gT_in 1402 (by decide +kernel) rfl
theorem wlL_181 : Cond.methodLink RL 181 yL_towerOf ∈ gT := gT_in 814 (by decide +kernel) rfl
theorem wt_X9_towerOf : gMv yX9_towerOf cX9_towerOf 3 (some .int) 2 := ⟨gT_in 1407 (by decide +kernel) rfl, gT_in 1408 (by decide +kernel) rfl, gT_in 69 (by decide +kernel) rfl, gT_in 1409 (by decide +kernel) rfl, by decide, by decide, by decide +kernel⟩
theorem wl_RL_183 : Cond.methodLink RL 183 yX9_towerOf ∈ gT := gT_in 1406 (by decide +kernel) rfl
theorem wlL_184 : Cond.methodLink RL 184 yL_spare ∈ gT := gT_in 826 (by decide +kernel) rfl
theorem wt_X9_spare : gMv yX9_spare cX9_spare 2 (some .int) 1 := ⟨gT_in 1423 (by decide +kernel) rfl, gT_in 1424 (by decide +kernel) rfl, gT_in 69 (by decide +kernel) rfl, gT_in 1425 (by decide +kernel) rfl, by decide, by decide, by decide +kernel⟩
theorem wl_RL_186 : Cond.methodLink RL 186 yX9_spare ∈ gT := gT_in 1422 (by decide +kernel) rfl
theorem wlL_187 : Cond.methodLink RL 187 yL_sign ∈ gT := gT_in 837 (by decide +kernel) rfl
theorem wt_X9_sign : gMv yX9_sign cX9_sign 2 (some .char) 1 := ⟨gT_in 1431 (by decide +kernel) rfl, gT_in 1432 (by decide +kernel) rfl, gT_in 69 (by decide +kernel) rfl, gT_in 1433 (by decide +kernel) rfl, by decide, by decide, by decide +kernel⟩
theorem wl_RL_189 : Cond.methodLink RL 189 yX9_sign ∈ gT := gT_in 1430 (by decide +kernel) rfl
theorem wlL_190 : Cond.methodLink RL 190 yL_stands ∈ gT := gT_in 844 (by decide +kernel) rfl
theorem wt_X9_stands : gMv yX9_stands cX9_stands 3 (some .boolean) 2 := ⟨gT_in 1435 (by decide +kernel) rfl, gT_in 1436 (by decide +kernel) rfl, gT_in 69 (by decide +kernel) rfl, gT_in 1437 (by decide +kernel) rfl, by decide, by decide, by decide +kernel⟩
theorem wl_RL_192 : Cond.methodLink RL 192 yX9_stands ∈ gT := gT_in 1434 (by decide +kernel) rfl
theorem wlL_193 : Cond.methodLink RL 193 yL_breaksIn ∈ gT := gT_in 853 (by decide +kernel) rfl
theorem wt_X9_breaksIn : gMv yX9_breaksIn cX9_breaksIn 4 (some .int) 1 := ⟨gT_in 1439 (by decide +kernel) rfl, gT_in 1440 (by decide +kernel) rfl, gT_in 69 (by decide +kernel) rfl, gT_in 1441 (by decide +kernel) rfl, by decide, by decide, by decide +kernel⟩
theorem wl_RL_195 : Cond.methodLink RL 195 yX9_breaksIn ∈ gT := gT_in 1438 (by decide +kernel) rfl
theorem wlL_196 : Cond.methodLink RL 196 yL_banquet ∈ gT := gT_in 870 (by decide +kernel) rfl
theorem wt_X9_banquet : gMv yX9_banquet cX9_banquet 5 (some .int) 3 := ⟨gT_in 1446 (by decide +kernel) rfl, gT_in 1447 (by decide +kernel) rfl, gT_in 69 (by decide +kernel) rfl, gT_in 1448 (by decide +kernel) rfl, by decide, by decide, by decide +kernel⟩
theorem wl_RL_198 : Cond.methodLink RL 198 yX9_banquet ∈ gT := gT_in 1445 (by decide +kernel) rfl
theorem wlL_199 : Cond.methodLink RL 199 yL_show ∈ gT := gT_in 891 (by decide +kernel) rfl
theorem wt_X9_show : gMv yX9_show cX9_show 3 (some .int) 2 := ⟨gT_in 1450 (by decide +kernel) rfl, gT_in 1451 (by decide +kernel) rfl, gT_in 69 (by decide +kernel) rfl, gT_in 1452 (by decide +kernel) rfl, by decide, by decide, by decide +kernel⟩
theorem wl_RL_201 : Cond.methodLink RL 201 yX9_show ∈ gT := gT_in 1449 (by decide +kernel) rfl
theorem wlL_202 : Cond.methodLink RL 202 yL_cancel ∈ gT := gT_in 916 (by decide +kernel) rfl
theorem wt_X9_cancel : gMv yX9_cancel cX9_cancel 3 (some .int) 1 := ⟨gT_in 1466 (by decide +kernel) rfl, gT_in 1467 (by decide +kernel) rfl, gT_in 69 (by decide +kernel) rfl, gT_in 1468 (by decide +kernel) rfl, by decide, by decide, by decide +kernel⟩
theorem wl_RL_204 : Cond.methodLink RL 204 yX9_cancel ∈ gT := gT_in 1465 (by decide +kernel) rfl
theorem wlL_205 : Cond.methodLink RL 205 yL_banquetOf ∈ gT := gT_in 928 (by decide +kernel) rfl
theorem wt_X9_banquetOf : gMv yX9_banquetOf cX9_banquetOf 4 (some .int) 2 := ⟨gT_in 1474 (by decide +kernel) rfl, gT_in 1475 (by decide +kernel) rfl, gT_in 69 (by decide +kernel) rfl, gT_in 1476 (by decide +kernel) rfl, by decide, by decide, by decide +kernel⟩
theorem wl_RL_207 : Cond.methodLink RL 207 yX9_banquetOf ∈ gT := gT_in 1473 (by decide +kernel) rfl
theorem wlL_208 : Cond.methodLink RL 208 yL_next ∈ gT := gT_in 936 (by decide +kernel) rfl
theorem wt_X9_next : gMv yX9_next cX9_next 3 (some .int) 0 := ⟨gT_in 1478 (by decide +kernel) rfl, gT_in 1479 (by decide +kernel) rfl, gT_in 69 (by decide +kernel) rfl, gT_in 1480 (by decide +kernel) rfl, by decide, by decide, by decide +kernel⟩
theorem wl_RL_210 : Cond.methodLink RL 210 yX9_next ∈ gT := gT_in 1477 (by decide +kernel) rfl
theorem wlL_211 : Cond.methodLink RL 211 yL_pass ∈ gT := gT_in 948 (by decide +kernel) rfl
theorem wt_X9_pass : gMv yX9_pass cX9_pass 2 (some .int) 1 := ⟨gT_in 1482 (by decide +kernel) rfl, gT_in 1483 (by decide +kernel) rfl, gT_in 69 (by decide +kernel) rfl, gT_in 1484 (by decide +kernel) rfl, by decide, by decide, by decide +kernel⟩
theorem wl_RL_213 : Cond.methodLink RL 213 yX9_pass ∈ gT := gT_in 1481 (by decide +kernel) rfl
theorem wlL_214 : Cond.methodLink RL 214 yL_append ∈ gT := gT_in 980 (by decide +kernel) rfl
theorem wt_X9_append : gMv yX9_append cX9_append 2 (some .int) 1 := ⟨gT_in 1502 (by decide +kernel) rfl, gT_in 1503 (by decide +kernel) rfl, gT_in 69 (by decide +kernel) rfl, gT_in 1504 (by decide +kernel) rfl, by decide, by decide, by decide +kernel⟩
theorem wl_RL_217 : Cond.methodLink RL 217 yX9_append ∈ gT := gT_in 1501 (by decide +kernel) rfl
theorem wlL_218 : Cond.methodLink RL 218 yL_read ∈ gT := gT_in 1008 (by decide +kernel) rfl
theorem wt_X9_read : gMv yX9_read cX9_read 4 (some .int) 0 := ⟨gT_in 1506 (by decide +kernel) rfl, gT_in 1507 (by decide +kernel) rfl, gT_in 69 (by decide +kernel) rfl, gT_in 1508 (by decide +kernel) rfl, by decide, by decide, by decide +kernel⟩
theorem wl_RL_220 : Cond.methodLink RL 220 yX9_read ∈ gT := gT_in 1505 (by decide +kernel) rfl
theorem wt_X8_errorPosition : gMv yX8_errorPosition cX8_errorPosition 1 (some .int) 0 := ⟨gT_in 356 (by decide +kernel) rfl, gT_in 357 (by decide +kernel) rfl, gT_in 60 (by decide +kernel) rfl, gT_in 358 (by decide +kernel) rfl, by decide, by decide, by decide +kernel⟩
theorem wl_RL_221 : Cond.methodLink RL 221 yX8_errorPosition ∈ gT := gT_in 355 (by decide +kernel) rfl
theorem wt_X9_errorPosition : gMv yX9_errorPosition cX9_errorPosition 1 (some .int) 0 := ⟨gT_in 1538 (by decide +kernel) rfl, gT_in 1539 (by decide +kernel) rfl, gT_in 69 (by decide +kernel) rfl, gT_in 1540 (by decide +kernel) rfl, by decide, by decide, by decide +kernel⟩
theorem wl_RL_224 : Cond.methodLink RL 224 yX9_errorPosition ∈ gT := gT_in 1537 (by decide +kernel) rfl
theorem wlL_225 : Cond.methodLink RL 225 yL_refusal ∈ gT := gT_in 1123 (by decide +kernel) rfl
theorem wt_X9_refusal : gMv yX9_refusal cX9_refusal 2 (some .int) 1 := ⟨gT_in 1542 (by decide +kernel) rfl, gT_in 1543 (by decide +kernel) rfl, gT_in 69 (by decide +kernel) rfl, gT_in 1544 (by decide +kernel) rfl, by decide, by decide, by decide +kernel⟩
theorem wl_RL_228 : Cond.methodLink RL 228 yX9_refusal ∈ gT := gT_in 1541 (by decide +kernel) rfl
theorem wlL_229 : Cond.methodLink RL 229 yL_account ∈ gT := gT_in 1131 (by decide +kernel) rfl
theorem wt_X9_account : gMv yX9_account cX9_account 2 (some .int) 1 := ⟨gT_in 1546 (by decide +kernel) rfl, gT_in 1547 (by decide +kernel) rfl, gT_in 69 (by decide +kernel) rfl, gT_in 1548 (by decide +kernel) rfl, by decide, by decide, by decide +kernel⟩
theorem wl_RL_231 : Cond.methodLink RL 231 yX9_account ∈ gT := gT_in 1545 (by decide +kernel) rfl
theorem wt_X8_isWell : gMv yX8_isWell cX8_isWell 1 (some .boolean) 0 := ⟨gT_in 360 (by decide +kernel) rfl, gT_in 361 (by decide +kernel) rfl, gT_in 60 (by decide +kernel) rfl, gT_in 362 (by decide +kernel) rfl, by decide, by decide, by decide +kernel⟩
theorem wl_RL_232 : Cond.methodLink RL 232 yX8_isWell ∈ gT := gT_in 359 (by decide +kernel) rfl
theorem wt_X9_isWell : gMv yX9_isWell cX9_isWell 4 (some .boolean) 0 := ⟨gT_in 1558 (by decide +kernel) rfl, gT_in 1559 (by decide +kernel) rfl, gT_in 69 (by decide +kernel) rfl, gT_in 1560 (by decide +kernel) rfl, by decide, by decide, by decide +kernel⟩
theorem wl_RL_236 : Cond.methodLink RL 236 yX9_isWell ∈ gT := gT_in 1557 (by decide +kernel) rfl
theorem wlL_237 : Cond.methodLink RL 237 yL_meanDampness ∈ gT := gT_in 1149 (by decide +kernel) rfl
theorem wt_X9_meanDampness : gMv yX9_meanDampness cX9_meanDampness 1 (some .double) 0 := ⟨gT_in 1562 (by decide +kernel) rfl, gT_in 1563 (by decide +kernel) rfl, gT_in 69 (by decide +kernel) rfl, gT_in 1564 (by decide +kernel) rfl, by decide, by decide, by decide +kernel⟩
theorem wl_RL_240 : Cond.methodLink RL 240 yX9_meanDampness ∈ gT := gT_in 1561 (by decide +kernel) rfl
theorem wlL_241 : Cond.methodLink RL 241 yL_broken ∈ gT := gT_in 1177 (by decide +kernel) rfl
theorem wt_X9_broken : gMv yX9_broken cX9_broken 1 (some .float) 0 := ⟨gT_in 1566 (by decide +kernel) rfl, gT_in 1567 (by decide +kernel) rfl, gT_in 69 (by decide +kernel) rfl, gT_in 1568 (by decide +kernel) rfl, by decide, by decide, by decide +kernel⟩
theorem wl_RL_243 : Cond.methodLink RL 243 yX9_broken ∈ gT := gT_in 1565 (by decide +kernel) rfl
theorem wlL_244 : Cond.methodLink RL 244 yL_undo ∈ gT := gT_in 1185 (by decide +kernel) rfl
theorem wt_X9_undo : gMv yX9_undo cX9_undo 1 (some .int) 0 := ⟨gT_in 1570 (by decide +kernel) rfl, gT_in 1571 (by decide +kernel) rfl, gT_in 69 (by decide +kernel) rfl, gT_in 1572 (by decide +kernel) rfl, by decide, by decide, by decide +kernel⟩
theorem wl_RL_246 : Cond.methodLink RL 246 yX9_undo ∈ gT := gT_in 1569 (by decide +kernel) rfl
theorem wt_X8_save : gMv yX8_save cX8_save 1 (some .int) 0 := ⟨gT_in 397 (by decide +kernel) rfl, gT_in 398 (by decide +kernel) rfl, gT_in 60 (by decide +kernel) rfl, gT_in 399 (by decide +kernel) rfl, by decide, by decide, by decide +kernel⟩
theorem wl_RL_247 : Cond.methodLink RL 247 yX8_save ∈ gT := gT_in 396 (by decide +kernel) rfl
theorem wt_X9_save : gMv yX9_save cX9_save 1 (some .int) 0 := ⟨gT_in 1574 (by decide +kernel) rfl, gT_in 1575 (by decide +kernel) rfl, gT_in 69 (by decide +kernel) rfl, gT_in 1576 (by decide +kernel) rfl, by decide, by decide, by decide +kernel⟩
theorem wl_RL_250 : Cond.methodLink RL 250 yX9_save ∈ gT := gT_in 1573 (by decide +kernel) rfl
theorem wlL_251 : Cond.methodLink RL 251 yL_restore ∈ gT := gT_in 1197 (by decide +kernel) rfl
theorem wt_X9_restore : gMv yX9_restore cX9_restore 1 (some .int) 0 := ⟨gT_in 1578 (by decide +kernel) rfl, gT_in 1579 (by decide +kernel) rfl, gT_in 69 (by decide +kernel) rfl, gT_in 1580 (by decide +kernel) rfl, by decide, by decide, by decide +kernel⟩
theorem wl_RL_253 : Cond.methodLink RL 253 yX9_restore ∈ gT := gT_in 1577 (by decide +kernel) rfl
set_option maxRecDepth 100000 in
set_option maxHeartbeats 4000000 in
theorem cs_0 {p : Program} {l : Launch} {e : Env} {R : Room} {s : State} {m : MethodId} {args : Array Value} {below : List Frame} {meth : Method} {c : Code} {H : Heap} {locs : List Loc} {ls : Array Slot} {cells slots : Nat} {Q : State → Prop} {X : gX} {z : Nat → Int64} {w : Nat → UInt64} (E : gE2 p s m args c cL_law X) (hml : c.maxLocals = 9) (hl0 : l.stackTraces = false) (hRf : 16 ≤ R.frames) (hRl : 1000 ≤ R.locals) (hRc : cells + 8 ≤ R.cells) (hRs : slots + 48 ≤ R.slots) {b L : Nat} {xs : Nat → Int32} (hXs : va_X b L xs s s.heap) (hbl : b < s.heap.size) (hbA : ¬ gA2 X b) {i : Int32} (hin : ∀ k : Nat, k < 5 → vp_in (i + nI k) L) {N : Nat} {σ : gMem} (hR : RR N σ σ) (hN : N ≤ 900000) (hM : gM X σ H) (hO : gO X z w H) (hS : va_S (gA2 X) s.heap H locs) (hl : lv_has ls 9 [(0, .ref b), (1, .ref (X.1 + 0)), (2, .ref (X.1 + 433)), (3, .ref (X.1 + 440)), (4, .ref (X.1 + 441)), (5, .int i)]) (kk : ∀ (H : Heap) (locs : List Loc) (ls : Array Slot) (σ : gMem) (z : Nat → Int64) (w : Nat → UInt64) (c1 s1 : Nat), c1 ≤ 8 → s1 ≤ 48 → RR (N + 1440) σ σ → gM X σ H → gO X z w H → va_S (gA2 X) s.heap H locs → lv_has ls 9 [(0, .ref b), (1, .ref (X.1 + 0)), (2, .ref (X.1 + 433)), (3, .ref (X.1 + 440)), (4, .ref (X.1 + 441)), (5, .int i)] → W p l e R s m args below meth c H locs (cells + c1) (slots + s1) Q (F0 m 2231 ls [])) : W p l e R s m args below meth c H locs cells slots Q (F0 m 200 ls []) := by
  obtain ⟨hx, hb⟩ := (⟨E.1.1, E.1.2.1⟩ : _ ∧ _)
  refine lv_aload_n hx hb dL_law_200 rfl (lv_at hl 1 rfl) ?_
  refine lv_aload_n hx hb dL_law_201 rfl (lv_at hl 0 rfl) ?_
  refine lv_iload hx hb dL_law_202 (lv_at hl 5 rfl) ?_
  refine lv_iconst (v := (1 : Int32)) hx hb dL_law_204 (by decide) ?_
  refine lv_iadd hx hb dL_law_205 ?_
  refine va_sld hx hb hXs hbl hbA hS (hin 1 (by decide)) dL_law_206 ?_
  refine lv_aload_n hx hb dL_law_207 rfl (lv_at hl 0 rfl) ?_
  refine lv_iload hx hb dL_law_208 (lv_at hl 5 rfl) ?_
  refine lv_iconst (v := (2 : Int32)) hx hb dL_law_210 (by decide) ?_
  refine lv_iadd hx hb dL_law_211 ?_
  refine va_sld hx hb hXs hbl hbA hS (hin 2 (by decide)) dL_law_212 ?_
  refine lv_aload_n hx hb dL_law_213 rfl (lv_at hl 3 rfl) ?_
  obtain ⟨cd, z1, σ1, bv, σ2, w1, w2, w3, w4, w5, w6⟩ := stp_humidity (z := z) (w := w) hR hN (xs (i + nI 1).toNatClampNeg) (xs (i + nI 2).toNatClampNeg)
  refine gq_W (n := 4) (As := [.ref (X.1 + 0), .int (xs (i + nI 1).toNatClampNeg), .int (xs (i + nI 2).toNatClampNeg), .ref (X.1 + 440)]) E hml hl.1 (cw_humidity l X hl0 (xs (i + nI 1).toNatClampNeg) (xs (i + nI 2).toNatClampNeg) z w σ w1) wlw_humidity_s wlw_ini wlw_humidity_c (by decide +kernel) wlL_132 rfl hM hO hS rfl rfl (Nat.le_trans (by decide) hRf) (Nat.le_trans (by decide) hRl) (Nat.le_trans (by omega) hRc) (Nat.le_trans (by omega) hRs) (Nat.le_of_ble_eq_true rfl) dL_law_214 rfl (fun H locs hM hO hS => ?_)
  refine lv_istore (lv' := [(6, .int (nI cd)), (0, .ref b), (1, .ref (X.1 + 0)), (2, .ref (X.1 + 433)), (3, .ref (X.1 + 440)), (4, .ref (X.1 + 441)), (5, .int i)]) hx hb dL_law_217 hl (by decide) rfl (fun ls hl => ?_)
  refine lv_aload_n hx hb dL_law_219 rfl (lv_at hl 3 rfl) ?_
  refine lv_aload_n hx hb dL_law_220 rfl (lv_at hl 1 rfl) ?_
  refine lv_iload hx hb dL_law_221 (lv_at hl 6 rfl) ?_
  refine lv_iconst (v := (1 : Int32)) hx hb dL_law_223 (by decide) ?_
  refine lv_iadd hx hb dL_law_224 ?_
  refine va_sld hx hb hXs hbl hbA hS (hin 1 (by decide)) dL_law_225 ?_
  refine lv_aload_n hx hb dL_law_226 rfl (lv_at hl 1 rfl) ?_
  refine lv_iload hx hb dL_law_227 (lv_at hl 6 rfl) ?_
  refine lv_iconst (v := (2 : Int32)) hx hb dL_law_229 (by decide) ?_
  refine lv_iadd hx hb dL_law_230 ?_
  refine va_sld hx hb hXs hbl hbA hS (hin 2 (by decide)) dL_law_231 ?_
  refine gb_i (gq_V (c0 := 433) (As := [.int (xs (i + nI 1).toNatClampNeg), .int (xs (i + nI 2).toNatClampNeg)]) (ci := 9) (rm := { frames := 2, cells := 0, slots := 0, locals := 46 }) E hml hl.1 (c_X9_humidity l X 433 (xs (i + nI 1).toNatClampNeg) (xs (i + nI 2).toNatClampNeg) σ1 rfl w2) wt_X9_humidity wl_RL_137 rfl rfl (by decide) rfl rfl hM hS rfl rfl (Nat.le_trans (by decide) hRf) (Nat.le_trans (by decide) hRl) (Nat.le_trans (by omega) hRc) (Nat.le_trans (by omega) hRs) (Nat.le_of_ble_eq_true rfl) dL_law_232 rfl) hO hS (fun H locs hM hO hS => ?_)
  refine lv_istore (lv' := [(7, .int bv), (6, .int (nI cd)), (0, .ref b), (1, .ref (X.1 + 0)), (2, .ref (X.1 + 433)), (3, .ref (X.1 + 440)), (4, .ref (X.1 + 441)), (5, .int i)]) hx hb dL_law_235 hl (by decide) rfl (fun ls hl => ?_)
  refine lv_aload_n hx hb dL_law_237 rfl (lv_at hl 4 rfl) ?_
  refine gb_i (gq_V (c0 := 433) (As := []) (ci := 9) (rm := { frames := 0, cells := 0, slots := 0, locals := 0 }) E hml hl.1 (c_X9_thrown l X 433 σ2 rfl (show f_X9_thrown 433 σ2 = some (nI cd, σ2) from congrArg (fun v => some (v, σ2)) w3)) wt_X9_thrown wl_RL_138 rfl rfl (by decide) rfl rfl hM hS rfl rfl (Nat.le_trans (by decide) hRf) (Nat.le_trans (by decide) hRl) (Nat.le_trans (by omega) hRc) (Nat.le_trans (by omega) hRs) (Nat.le_of_ble_eq_true rfl) dL_law_238 rfl) hO hS (fun H locs hM hO hS => ?_)
  refine lv_iload hx hb dL_law_241 (lv_at hl 1 rfl) ?_
  refine lv_icmp_eq (tgt := 248) hx hb dL_law_243 (by decide) (fun _ => ?_) (fun hne => absurd rfl hne)
  refine lv_iload hx hb dL_law_248 (lv_at hl 1 rfl) ?_
  have fin : W p l e R s m args below meth c H locs (cells + 1 + 0 + 0) (slots + 6 + 0 + 0) Q (F0 m 265 ls []) := by
    refine lv_goto (tgt := 2231) hx hb dL_law_265 (by decide) ?_
    exact kk H locs ls σ2 z1 w _ _ (by decide) (by decide) w4 hM hO hS ⟨hl.1, hl.2.1, fun q hq => hl.2.2 q (List.mem_cons_of_mem _ (List.mem_cons_of_mem _ hq))⟩
  refine lv_if_ne (tgt := 265) hx hb dL_law_250 (by decide) (fun _ => fin) (fun h0 => ?_)
  have hcd : cd = 0 := by
    have h1 : nI cd = nI 0 := h0
    rw [p_eq (by omega) (by decide)] at h1; exact h1
  have w7 := w6 hcd
  refine lv_aload_n hx hb dL_law_253 rfl (lv_at hl 5 rfl) ?_
  refine lv_iconst (v := (0 : Int32)) hx hb dL_law_254 (by decide) ?_
  refine gl_lld E hO dL_law_255 ?_
  refine lv_iload hx hb dL_law_256 (lv_at hl 0 rfl) ?_
  refine lv_i2l (v := bv.toInt64) hx hb dL_law_258 rfl ?_
  refine lr_lcmp hx hb dL_law_259 w7 ?_
  exact lv_if_eq (tgt := 265) hx hb dL_law_260 (by decide) (fun _ => fin) (fun hne => absurd rfl hne)
set_option maxRecDepth 100000 in
set_option maxHeartbeats 4000000 in
theorem cs_1 {p : Program} {l : Launch} {e : Env} {R : Room} {s : State} {m : MethodId} {args : Array Value} {below : List Frame} {meth : Method} {c : Code} {H : Heap} {locs : List Loc} {ls : Array Slot} {cells slots : Nat} {Q : State → Prop} {X : gX} {z : Nat → Int64} {w : Nat → UInt64} (E : gE2 p s m args c cL_law X) (hml : c.maxLocals = 9) (hl0 : l.stackTraces = false) (hRf : 16 ≤ R.frames) (hRl : 1000 ≤ R.locals) (hRc : cells + 8 ≤ R.cells) (hRs : slots + 48 ≤ R.slots) {b L : Nat} {xs : Nat → Int32} (hXs : va_X b L xs s s.heap) (hbl : b < s.heap.size) (hbA : ¬ gA2 X b) {i : Int32} (hin : ∀ k : Nat, k < 5 → vp_in (i + nI k) L) {N : Nat} {σ : gMem} (hR : RR N σ σ) (hN : N ≤ 900000) (hM : gM X σ H) (hO : gO X z w H) (hS : va_S (gA2 X) s.heap H locs) (hl : lv_has ls 9 [(0, .ref b), (1, .ref (X.1 + 0)), (2, .ref (X.1 + 433)), (3, .ref (X.1 + 440)), (4, .ref (X.1 + 441)), (5, .int i)]) (kk : ∀ (H : Heap) (locs : List Loc) (ls : Array Slot) (σ : gMem) (z : Nat → Int64) (w : Nat → UInt64) (c1 s1 : Nat), c1 ≤ 8 → s1 ≤ 48 → RR (N + 1440) σ σ → gM X σ H → gO X z w H → va_S (gA2 X) s.heap H locs → lv_has ls 9 [(0, .ref b), (1, .ref (X.1 + 0)), (2, .ref (X.1 + 433)), (3, .ref (X.1 + 440)), (4, .ref (X.1 + 441)), (5, .int i)] → W p l e R s m args below meth c H locs (cells + c1) (slots + s1) Q (F0 m 2231 ls [])) : W p l e R s m args below meth c H locs cells slots Q (F0 m 268 ls []) := by
  obtain ⟨hx, hb⟩ := (⟨E.1.1, E.1.2.1⟩ : _ ∧ _)
  refine lv_aload_n hx hb dL_law_268 rfl (lv_at hl 1 rfl) ?_
  refine lv_aload_n hx hb dL_law_269 rfl (lv_at hl 0 rfl) ?_
  refine lv_iload hx hb dL_law_270 (lv_at hl 5 rfl) ?_
  refine lv_iconst (v := (1 : Int32)) hx hb dL_law_272 (by decide) ?_
  refine lv_iadd hx hb dL_law_273 ?_
  refine va_sld hx hb hXs hbl hbA hS (hin 1 (by decide)) dL_law_274 ?_
  refine lv_aload_n hx hb dL_law_275 rfl (lv_at hl 3 rfl) ?_
  obtain ⟨cd, z1, σ1, bv, σ2, w1, w2, w3, w4, w5, w6⟩ := stp_humidityIn (z := z) (w := w) hR hN (xs (i + nI 1).toNatClampNeg)
  refine gq_W (n := 3) (As := [.ref (X.1 + 0), .int (xs (i + nI 1).toNatClampNeg), .ref (X.1 + 440)]) E hml hl.1 (cw_humidityIn l X hl0 (xs (i + nI 1).toNatClampNeg) z w σ w1) wlw_humidityIn_s wlw_ini wlw_humidityIn_c (by decide +kernel) wlL_141 rfl hM hO hS rfl rfl (Nat.le_trans (by decide) hRf) (Nat.le_trans (by decide) hRl) (Nat.le_trans (by omega) hRc) (Nat.le_trans (by omega) hRs) (Nat.le_of_ble_eq_true rfl) dL_law_276 rfl (fun H locs hM hO hS => ?_)
  refine lv_istore (lv' := [(6, .int (nI cd)), (0, .ref b), (1, .ref (X.1 + 0)), (2, .ref (X.1 + 433)), (3, .ref (X.1 + 440)), (4, .ref (X.1 + 441)), (5, .int i)]) hx hb dL_law_279 hl (by decide) rfl (fun ls hl => ?_)
  refine lv_aload_n hx hb dL_law_281 rfl (lv_at hl 3 rfl) ?_
  refine lv_aload_n hx hb dL_law_282 rfl (lv_at hl 1 rfl) ?_
  refine lv_iload hx hb dL_law_283 (lv_at hl 6 rfl) ?_
  refine lv_iconst (v := (1 : Int32)) hx hb dL_law_285 (by decide) ?_
  refine lv_iadd hx hb dL_law_286 ?_
  refine va_sld hx hb hXs hbl hbA hS (hin 1 (by decide)) dL_law_287 ?_
  refine gb_i (gq_V (c0 := 433) (As := [.int (xs (i + nI 1).toNatClampNeg)]) (ci := 9) (rm := { frames := 1, cells := 0, slots := 0, locals := 22 }) E hml hl.1 (c_X9_humidityIn l X 433 (xs (i + nI 1).toNatClampNeg) σ1 rfl w2) wt_X9_humidityIn wl_RL_144 rfl rfl (by decide) rfl rfl hM hS rfl rfl (Nat.le_trans (by decide) hRf) (Nat.le_trans (by decide) hRl) (Nat.le_trans (by omega) hRc) (Nat.le_trans (by omega) hRs) (Nat.le_of_ble_eq_true rfl) dL_law_288 rfl) hO hS (fun H locs hM hO hS => ?_)
  refine lv_istore (lv' := [(7, .int bv), (6, .int (nI cd)), (0, .ref b), (1, .ref (X.1 + 0)), (2, .ref (X.1 + 433)), (3, .ref (X.1 + 440)), (4, .ref (X.1 + 441)), (5, .int i)]) hx hb dL_law_291 hl (by decide) rfl (fun ls hl => ?_)
  refine lv_aload_n hx hb dL_law_293 rfl (lv_at hl 4 rfl) ?_
  refine gb_i (gq_V (c0 := 433) (As := []) (ci := 9) (rm := { frames := 0, cells := 0, slots := 0, locals := 0 }) E hml hl.1 (c_X9_thrown l X 433 σ2 rfl (show f_X9_thrown 433 σ2 = some (nI cd, σ2) from congrArg (fun v => some (v, σ2)) w3)) wt_X9_thrown wl_RL_138 rfl rfl (by decide) rfl rfl hM hS rfl rfl (Nat.le_trans (by decide) hRf) (Nat.le_trans (by decide) hRl) (Nat.le_trans (by omega) hRc) (Nat.le_trans (by omega) hRs) (Nat.le_of_ble_eq_true rfl) dL_law_294 rfl) hO hS (fun H locs hM hO hS => ?_)
  refine lv_iload hx hb dL_law_297 (lv_at hl 1 rfl) ?_
  refine lv_icmp_eq (tgt := 304) hx hb dL_law_299 (by decide) (fun _ => ?_) (fun hne => absurd rfl hne)
  refine lv_iload hx hb dL_law_304 (lv_at hl 1 rfl) ?_
  have fin : W p l e R s m args below meth c H locs (cells + 1 + 0 + 0) (slots + 6 + 0 + 0) Q (F0 m 321 ls []) := by
    refine lv_goto (tgt := 2231) hx hb dL_law_321 (by decide) ?_
    exact kk H locs ls σ2 z1 w _ _ (by decide) (by decide) w4 hM hO hS ⟨hl.1, hl.2.1, fun q hq => hl.2.2 q (List.mem_cons_of_mem _ (List.mem_cons_of_mem _ hq))⟩
  refine lv_if_ne (tgt := 321) hx hb dL_law_306 (by decide) (fun _ => fin) (fun h0 => ?_)
  have hcd : cd = 0 := by
    have h1 : nI cd = nI 0 := h0
    rw [p_eq (by omega) (by decide)] at h1; exact h1
  have w7 := w6 hcd
  refine lv_aload_n hx hb dL_law_309 rfl (lv_at hl 5 rfl) ?_
  refine lv_iconst (v := (0 : Int32)) hx hb dL_law_310 (by decide) ?_
  refine gl_lld E hO dL_law_311 ?_
  refine lv_iload hx hb dL_law_312 (lv_at hl 0 rfl) ?_
  refine lv_i2l (v := bv.toInt64) hx hb dL_law_314 rfl ?_
  refine lr_lcmp hx hb dL_law_315 w7 ?_
  exact lv_if_eq (tgt := 321) hx hb dL_law_316 (by decide) (fun _ => fin) (fun hne => absurd rfl hne)
set_option maxRecDepth 100000 in
set_option maxHeartbeats 4000000 in
theorem cs_2 {p : Program} {l : Launch} {e : Env} {R : Room} {s : State} {m : MethodId} {args : Array Value} {below : List Frame} {meth : Method} {c : Code} {H : Heap} {locs : List Loc} {ls : Array Slot} {cells slots : Nat} {Q : State → Prop} {X : gX} {z : Nat → Int64} {w : Nat → UInt64} (E : gE2 p s m args c cL_law X) (hml : c.maxLocals = 9) (hl0 : l.stackTraces = false) (hRf : 16 ≤ R.frames) (hRl : 1000 ≤ R.locals) (hRc : cells + 8 ≤ R.cells) (hRs : slots + 48 ≤ R.slots) {b L : Nat} {xs : Nat → Int32} (hXs : va_X b L xs s s.heap) (hbl : b < s.heap.size) (hbA : ¬ gA2 X b) {i : Int32} (hin : ∀ k : Nat, k < 5 → vp_in (i + nI k) L) {N : Nat} {σ : gMem} (hR : RR N σ σ) (hN : N ≤ 900000) (hM : gM X σ H) (hO : gO X z w H) (hS : va_S (gA2 X) s.heap H locs) (hl : lv_has ls 9 [(0, .ref b), (1, .ref (X.1 + 0)), (2, .ref (X.1 + 433)), (3, .ref (X.1 + 440)), (4, .ref (X.1 + 441)), (5, .int i)]) (kk : ∀ (H : Heap) (locs : List Loc) (ls : Array Slot) (σ : gMem) (z : Nat → Int64) (w : Nat → UInt64) (c1 s1 : Nat), c1 ≤ 8 → s1 ≤ 48 → RR (N + 1440) σ σ → gM X σ H → gO X z w H → va_S (gA2 X) s.heap H locs → lv_has ls 9 [(0, .ref b), (1, .ref (X.1 + 0)), (2, .ref (X.1 + 433)), (3, .ref (X.1 + 440)), (4, .ref (X.1 + 441)), (5, .int i)] → W p l e R s m args below meth c H locs (cells + c1) (slots + s1) Q (F0 m 2231 ls [])) : W p l e R s m args below meth c H locs cells slots Q (F0 m 324 ls []) := by
  obtain ⟨hx, hb⟩ := (⟨E.1.1, E.1.2.1⟩ : _ ∧ _)
  refine lv_aload_n hx hb dL_law_324 rfl (lv_at hl 1 rfl) ?_
  refine lv_aload_n hx hb dL_law_325 rfl (lv_at hl 0 rfl) ?_
  refine lv_iload hx hb dL_law_326 (lv_at hl 5 rfl) ?_
  refine lv_iconst (v := (1 : Int32)) hx hb dL_law_328 (by decide) ?_
  refine lv_iadd hx hb dL_law_329 ?_
  refine va_sld hx hb hXs hbl hbA hS (hin 1 (by decide)) dL_law_330 ?_
  refine lv_aload_n hx hb dL_law_331 rfl (lv_at hl 0 rfl) ?_
  refine lv_iload hx hb dL_law_332 (lv_at hl 5 rfl) ?_
  refine lv_iconst (v := (2 : Int32)) hx hb dL_law_334 (by decide) ?_
  refine lv_iadd hx hb dL_law_335 ?_
  refine va_sld hx hb hXs hbl hbA hS (hin 2 (by decide)) dL_law_336 ?_
  refine lv_aload_n hx hb dL_law_337 rfl (lv_at hl 3 rfl) ?_
  obtain ⟨cd, z1, σ1, bv, σ2, w1, w2, w3, w4, w5, w6⟩ := stp_buy (z := z) (w := w) hR hN (xs (i + nI 1).toNatClampNeg) (xs (i + nI 2).toNatClampNeg)
  refine gq_W (n := 4) (As := [.ref (X.1 + 0), .int (xs (i + nI 1).toNatClampNeg), .int (xs (i + nI 2).toNatClampNeg), .ref (X.1 + 440)]) E hml hl.1 (cw_buy l X hl0 (xs (i + nI 1).toNatClampNeg) (xs (i + nI 2).toNatClampNeg) z w σ w1) wlw_buy_s wlw_ini wlw_buy_c (by decide +kernel) wlL_145 rfl hM hO hS rfl rfl (Nat.le_trans (by decide) hRf) (Nat.le_trans (by decide) hRl) (Nat.le_trans (by omega) hRc) (Nat.le_trans (by omega) hRs) (Nat.le_of_ble_eq_true rfl) dL_law_338 rfl (fun H locs hM hO hS => ?_)
  refine lv_istore (lv' := [(6, .int (nI cd)), (0, .ref b), (1, .ref (X.1 + 0)), (2, .ref (X.1 + 433)), (3, .ref (X.1 + 440)), (4, .ref (X.1 + 441)), (5, .int i)]) hx hb dL_law_341 hl (by decide) rfl (fun ls hl => ?_)
  refine lv_aload_n hx hb dL_law_343 rfl (lv_at hl 3 rfl) ?_
  refine lv_aload_n hx hb dL_law_344 rfl (lv_at hl 1 rfl) ?_
  refine lv_iload hx hb dL_law_345 (lv_at hl 6 rfl) ?_
  refine lv_iconst (v := (1 : Int32)) hx hb dL_law_347 (by decide) ?_
  refine lv_iadd hx hb dL_law_348 ?_
  refine va_sld hx hb hXs hbl hbA hS (hin 1 (by decide)) dL_law_349 ?_
  refine lv_aload_n hx hb dL_law_350 rfl (lv_at hl 1 rfl) ?_
  refine lv_iload hx hb dL_law_351 (lv_at hl 6 rfl) ?_
  refine lv_iconst (v := (2 : Int32)) hx hb dL_law_353 (by decide) ?_
  refine lv_iadd hx hb dL_law_354 ?_
  refine va_sld hx hb hXs hbl hbA hS (hin 2 (by decide)) dL_law_355 ?_
  refine gb_i (gq_V (c0 := 433) (As := [.int (xs (i + nI 1).toNatClampNeg), .int (xs (i + nI 2).toNatClampNeg)]) (ci := 9) (rm := { frames := 3, cells := 0, slots := 0, locals := 65 }) E hml hl.1 (c_X9_buy l X 433 (xs (i + nI 1).toNatClampNeg) (xs (i + nI 2).toNatClampNeg) σ1 rfl w2) wt_X9_buy wl_RL_147 rfl rfl (by decide) rfl rfl hM hS rfl rfl (Nat.le_trans (by decide) hRf) (Nat.le_trans (by decide) hRl) (Nat.le_trans (by omega) hRc) (Nat.le_trans (by omega) hRs) (Nat.le_of_ble_eq_true rfl) dL_law_356 rfl) hO hS (fun H locs hM hO hS => ?_)
  refine lv_istore (lv' := [(7, .int bv), (6, .int (nI cd)), (0, .ref b), (1, .ref (X.1 + 0)), (2, .ref (X.1 + 433)), (3, .ref (X.1 + 440)), (4, .ref (X.1 + 441)), (5, .int i)]) hx hb dL_law_359 hl (by decide) rfl (fun ls hl => ?_)
  refine lv_aload_n hx hb dL_law_361 rfl (lv_at hl 4 rfl) ?_
  refine gb_i (gq_V (c0 := 433) (As := []) (ci := 9) (rm := { frames := 0, cells := 0, slots := 0, locals := 0 }) E hml hl.1 (c_X9_thrown l X 433 σ2 rfl (show f_X9_thrown 433 σ2 = some (nI cd, σ2) from congrArg (fun v => some (v, σ2)) w3)) wt_X9_thrown wl_RL_138 rfl rfl (by decide) rfl rfl hM hS rfl rfl (Nat.le_trans (by decide) hRf) (Nat.le_trans (by decide) hRl) (Nat.le_trans (by omega) hRc) (Nat.le_trans (by omega) hRs) (Nat.le_of_ble_eq_true rfl) dL_law_362 rfl) hO hS (fun H locs hM hO hS => ?_)
  refine lv_iload hx hb dL_law_365 (lv_at hl 1 rfl) ?_
  refine lv_icmp_eq (tgt := 372) hx hb dL_law_367 (by decide) (fun _ => ?_) (fun hne => absurd rfl hne)
  refine lv_iload hx hb dL_law_372 (lv_at hl 1 rfl) ?_
  have fin : W p l e R s m args below meth c H locs (cells + 1 + 0 + 0) (slots + 6 + 0 + 0) Q (F0 m 389 ls []) := by
    refine lv_goto (tgt := 2231) hx hb dL_law_389 (by decide) ?_
    exact kk H locs ls σ2 z1 w _ _ (by decide) (by decide) w4 hM hO hS ⟨hl.1, hl.2.1, fun q hq => hl.2.2 q (List.mem_cons_of_mem _ (List.mem_cons_of_mem _ hq))⟩
  refine lv_if_ne (tgt := 389) hx hb dL_law_374 (by decide) (fun _ => fin) (fun h0 => ?_)
  have hcd : cd = 0 := by
    have h1 : nI cd = nI 0 := h0
    rw [p_eq (by omega) (by decide)] at h1; exact h1
  have w7 := w6 hcd
  refine lv_aload_n hx hb dL_law_377 rfl (lv_at hl 5 rfl) ?_
  refine lv_iconst (v := (0 : Int32)) hx hb dL_law_378 (by decide) ?_
  refine gl_lld E hO dL_law_379 ?_
  refine lv_iload hx hb dL_law_380 (lv_at hl 0 rfl) ?_
  refine lv_i2l (v := bv.toInt64) hx hb dL_law_382 rfl ?_
  refine lr_lcmp hx hb dL_law_383 w7 ?_
  exact lv_if_eq (tgt := 389) hx hb dL_law_384 (by decide) (fun _ => fin) (fun hne => absurd rfl hne)
set_option maxRecDepth 100000 in
set_option maxHeartbeats 4000000 in
theorem cs_3 {p : Program} {l : Launch} {e : Env} {R : Room} {s : State} {m : MethodId} {args : Array Value} {below : List Frame} {meth : Method} {c : Code} {H : Heap} {locs : List Loc} {ls : Array Slot} {cells slots : Nat} {Q : State → Prop} {X : gX} {z : Nat → Int64} {w : Nat → UInt64} (E : gE2 p s m args c cL_law X) (hml : c.maxLocals = 9) (hl0 : l.stackTraces = false) (hRf : 16 ≤ R.frames) (hRl : 1000 ≤ R.locals) (hRc : cells + 8 ≤ R.cells) (hRs : slots + 48 ≤ R.slots) {b L : Nat} {xs : Nat → Int32} (hXs : va_X b L xs s s.heap) (hbl : b < s.heap.size) (hbA : ¬ gA2 X b) {i : Int32} (hin : ∀ k : Nat, k < 5 → vp_in (i + nI k) L) {N : Nat} {σ : gMem} (hR : RR N σ σ) (hN : N ≤ 900000) (hM : gM X σ H) (hO : gO X z w H) (hS : va_S (gA2 X) s.heap H locs) (hl : lv_has ls 9 [(0, .ref b), (1, .ref (X.1 + 0)), (2, .ref (X.1 + 433)), (3, .ref (X.1 + 440)), (4, .ref (X.1 + 441)), (5, .int i)]) (kk : ∀ (H : Heap) (locs : List Loc) (ls : Array Slot) (σ : gMem) (z : Nat → Int64) (w : Nat → UInt64) (c1 s1 : Nat), c1 ≤ 8 → s1 ≤ 48 → RR (N + 1440) σ σ → gM X σ H → gO X z w H → va_S (gA2 X) s.heap H locs → lv_has ls 9 [(0, .ref b), (1, .ref (X.1 + 0)), (2, .ref (X.1 + 433)), (3, .ref (X.1 + 440)), (4, .ref (X.1 + 441)), (5, .int i)] → W p l e R s m args below meth c H locs (cells + c1) (slots + s1) Q (F0 m 2231 ls [])) : W p l e R s m args below meth c H locs cells slots Q (F0 m 392 ls []) := by
  obtain ⟨hx, hb⟩ := (⟨E.1.1, E.1.2.1⟩ : _ ∧ _)
  refine lv_aload_n hx hb dL_law_392 rfl (lv_at hl 1 rfl) ?_
  refine lv_aload_n hx hb dL_law_393 rfl (lv_at hl 0 rfl) ?_
  refine lv_iload hx hb dL_law_394 (lv_at hl 5 rfl) ?_
  refine lv_iconst (v := (1 : Int32)) hx hb dL_law_396 (by decide) ?_
  refine lv_iadd hx hb dL_law_397 ?_
  refine va_sld hx hb hXs hbl hbA hS (hin 1 (by decide)) dL_law_398 ?_
  refine lv_aload_n hx hb dL_law_399 rfl (lv_at hl 3 rfl) ?_
  obtain ⟨cd, z1, σ1, bv, σ2, w1, w2, w3, w4, w5, w6⟩ := stp_stock (z := z) (w := w) hR hN (xs (i + nI 1).toNatClampNeg)
  refine gq_W (n := 3) (As := [.ref (X.1 + 0), .int (xs (i + nI 1).toNatClampNeg), .ref (X.1 + 440)]) E hml hl.1 (cw_stock l X hl0 (xs (i + nI 1).toNatClampNeg) z w σ w1) wlw_stock_s wlw_ini wlw_stock_c (by decide +kernel) wlL_148 rfl hM hO hS rfl rfl (Nat.le_trans (by decide) hRf) (Nat.le_trans (by decide) hRl) (Nat.le_trans (by omega) hRc) (Nat.le_trans (by omega) hRs) (Nat.le_of_ble_eq_true rfl) dL_law_400 rfl (fun H locs hM hO hS => ?_)
  refine lv_istore (lv' := [(6, .int (nI cd)), (0, .ref b), (1, .ref (X.1 + 0)), (2, .ref (X.1 + 433)), (3, .ref (X.1 + 440)), (4, .ref (X.1 + 441)), (5, .int i)]) hx hb dL_law_403 hl (by decide) rfl (fun ls hl => ?_)
  refine lv_aload_n hx hb dL_law_405 rfl (lv_at hl 3 rfl) ?_
  refine lv_aload_n hx hb dL_law_406 rfl (lv_at hl 1 rfl) ?_
  refine lv_iload hx hb dL_law_407 (lv_at hl 6 rfl) ?_
  refine lv_iconst (v := (1 : Int32)) hx hb dL_law_409 (by decide) ?_
  refine lv_iadd hx hb dL_law_410 ?_
  refine va_sld hx hb hXs hbl hbA hS (hin 1 (by decide)) dL_law_411 ?_
  refine gb_i (gq_V (c0 := 433) (As := [.int (xs (i + nI 1).toNatClampNeg)]) (ci := 9) (rm := { frames := 2, cells := 0, slots := 0, locals := 42 }) E hml hl.1 (c_X9_stock l X 433 (xs (i + nI 1).toNatClampNeg) σ1 rfl w2) wt_X9_stock wl_RL_150 rfl rfl (by decide) rfl rfl hM hS rfl rfl (Nat.le_trans (by decide) hRf) (Nat.le_trans (by decide) hRl) (Nat.le_trans (by omega) hRc) (Nat.le_trans (by omega) hRs) (Nat.le_of_ble_eq_true rfl) dL_law_412 rfl) hO hS (fun H locs hM hO hS => ?_)
  refine lv_istore (lv' := [(7, .int bv), (6, .int (nI cd)), (0, .ref b), (1, .ref (X.1 + 0)), (2, .ref (X.1 + 433)), (3, .ref (X.1 + 440)), (4, .ref (X.1 + 441)), (5, .int i)]) hx hb dL_law_415 hl (by decide) rfl (fun ls hl => ?_)
  refine lv_aload_n hx hb dL_law_417 rfl (lv_at hl 4 rfl) ?_
  refine gb_i (gq_V (c0 := 433) (As := []) (ci := 9) (rm := { frames := 0, cells := 0, slots := 0, locals := 0 }) E hml hl.1 (c_X9_thrown l X 433 σ2 rfl (show f_X9_thrown 433 σ2 = some (nI cd, σ2) from congrArg (fun v => some (v, σ2)) w3)) wt_X9_thrown wl_RL_138 rfl rfl (by decide) rfl rfl hM hS rfl rfl (Nat.le_trans (by decide) hRf) (Nat.le_trans (by decide) hRl) (Nat.le_trans (by omega) hRc) (Nat.le_trans (by omega) hRs) (Nat.le_of_ble_eq_true rfl) dL_law_418 rfl) hO hS (fun H locs hM hO hS => ?_)
  refine lv_iload hx hb dL_law_421 (lv_at hl 1 rfl) ?_
  refine lv_icmp_eq (tgt := 428) hx hb dL_law_423 (by decide) (fun _ => ?_) (fun hne => absurd rfl hne)
  refine lv_iload hx hb dL_law_428 (lv_at hl 1 rfl) ?_
  have fin : W p l e R s m args below meth c H locs (cells + 1 + 0 + 0) (slots + 6 + 0 + 0) Q (F0 m 445 ls []) := by
    refine lv_goto (tgt := 2231) hx hb dL_law_445 (by decide) ?_
    exact kk H locs ls σ2 z1 w _ _ (by decide) (by decide) w4 hM hO hS ⟨hl.1, hl.2.1, fun q hq => hl.2.2 q (List.mem_cons_of_mem _ (List.mem_cons_of_mem _ hq))⟩
  refine lv_if_ne (tgt := 445) hx hb dL_law_430 (by decide) (fun _ => fin) (fun h0 => ?_)
  have hcd : cd = 0 := by
    have h1 : nI cd = nI 0 := h0
    rw [p_eq (by omega) (by decide)] at h1; exact h1
  have w7 := w6 hcd
  refine lv_aload_n hx hb dL_law_433 rfl (lv_at hl 5 rfl) ?_
  refine lv_iconst (v := (0 : Int32)) hx hb dL_law_434 (by decide) ?_
  refine gl_lld E hO dL_law_435 ?_
  refine lv_iload hx hb dL_law_436 (lv_at hl 0 rfl) ?_
  refine lv_i2l (v := bv.toInt64) hx hb dL_law_438 rfl ?_
  refine lr_lcmp hx hb dL_law_439 w7 ?_
  exact lv_if_eq (tgt := 445) hx hb dL_law_440 (by decide) (fun _ => fin) (fun hne => absurd rfl hne)
set_option maxRecDepth 100000 in
set_option maxHeartbeats 4000000 in
theorem cs_4 {p : Program} {l : Launch} {e : Env} {R : Room} {s : State} {m : MethodId} {args : Array Value} {below : List Frame} {meth : Method} {c : Code} {H : Heap} {locs : List Loc} {ls : Array Slot} {cells slots : Nat} {Q : State → Prop} {X : gX} {z : Nat → Int64} {w : Nat → UInt64} (E : gE2 p s m args c cL_law X) (hml : c.maxLocals = 9) (hl0 : l.stackTraces = false) (hRf : 16 ≤ R.frames) (hRl : 1000 ≤ R.locals) (hRc : cells + 8 ≤ R.cells) (hRs : slots + 48 ≤ R.slots) {b L : Nat} {xs : Nat → Int32} (hXs : va_X b L xs s s.heap) (hbl : b < s.heap.size) (hbA : ¬ gA2 X b) {i : Int32} (hin : ∀ k : Nat, k < 5 → vp_in (i + nI k) L) {N : Nat} {σ : gMem} (hR : RR N σ σ) (hN : N ≤ 900000) (hM : gM X σ H) (hO : gO X z w H) (hS : va_S (gA2 X) s.heap H locs) (hl : lv_has ls 9 [(0, .ref b), (1, .ref (X.1 + 0)), (2, .ref (X.1 + 433)), (3, .ref (X.1 + 440)), (4, .ref (X.1 + 441)), (5, .int i)]) (kk : ∀ (H : Heap) (locs : List Loc) (ls : Array Slot) (σ : gMem) (z : Nat → Int64) (w : Nat → UInt64) (c1 s1 : Nat), c1 ≤ 8 → s1 ≤ 48 → RR (N + 1440) σ σ → gM X σ H → gO X z w H → va_S (gA2 X) s.heap H locs → lv_has ls 9 [(0, .ref b), (1, .ref (X.1 + 0)), (2, .ref (X.1 + 433)), (3, .ref (X.1 + 440)), (4, .ref (X.1 + 441)), (5, .int i)] → W p l e R s m args below meth c H locs (cells + c1) (slots + s1) Q (F0 m 2231 ls [])) : W p l e R s m args below meth c H locs cells slots Q (F0 m 448 ls []) := by
  obtain ⟨hx, hb⟩ := (⟨E.1.1, E.1.2.1⟩ : _ ∧ _)
  refine lv_aload_n hx hb dL_law_448 rfl (lv_at hl 1 rfl) ?_
  refine lv_aload_n hx hb dL_law_449 rfl (lv_at hl 0 rfl) ?_
  refine lv_iload hx hb dL_law_450 (lv_at hl 5 rfl) ?_
  refine lv_iconst (v := (1 : Int32)) hx hb dL_law_452 (by decide) ?_
  refine lv_iadd hx hb dL_law_453 ?_
  refine va_sld hx hb hXs hbl hbA hS (hin 1 (by decide)) dL_law_454 ?_
  refine lv_aload_n hx hb dL_law_455 rfl (lv_at hl 3 rfl) ?_
  obtain ⟨cd, z1, σ1, bv, σ2, w1, w2, w3, w4, w5, w6⟩ := stp_tongs (z := z) (w := w) hR hN (xs (i + nI 1).toNatClampNeg)
  refine gq_W (n := 3) (As := [.ref (X.1 + 0), .int (xs (i + nI 1).toNatClampNeg), .ref (X.1 + 440)]) E hml hl.1 (cw_tongs l X hl0 (xs (i + nI 1).toNatClampNeg) z w σ w1) wlw_tongs_s wlw_ini wlw_tongs_c (by decide +kernel) wlL_151 rfl hM hO hS rfl rfl (Nat.le_trans (by decide) hRf) (Nat.le_trans (by decide) hRl) (Nat.le_trans (by omega) hRc) (Nat.le_trans (by omega) hRs) (Nat.le_of_ble_eq_true rfl) dL_law_456 rfl (fun H locs hM hO hS => ?_)
  refine lv_istore (lv' := [(6, .int (nI cd)), (0, .ref b), (1, .ref (X.1 + 0)), (2, .ref (X.1 + 433)), (3, .ref (X.1 + 440)), (4, .ref (X.1 + 441)), (5, .int i)]) hx hb dL_law_459 hl (by decide) rfl (fun ls hl => ?_)
  refine lv_aload_n hx hb dL_law_461 rfl (lv_at hl 3 rfl) ?_
  refine lv_aload_n hx hb dL_law_462 rfl (lv_at hl 1 rfl) ?_
  refine lv_iload hx hb dL_law_463 (lv_at hl 6 rfl) ?_
  refine lv_iconst (v := (1 : Int32)) hx hb dL_law_465 (by decide) ?_
  refine lv_iadd hx hb dL_law_466 ?_
  refine va_sld hx hb hXs hbl hbA hS (hin 1 (by decide)) dL_law_467 ?_
  refine gb_i (gq_V (c0 := 433) (As := [.int (xs (i + nI 1).toNatClampNeg)]) (ci := 9) (rm := { frames := 2, cells := 0, slots := 0, locals := 46 }) E hml hl.1 (c_X9_tongs l X 433 (xs (i + nI 1).toNatClampNeg) σ1 rfl w2) wt_X9_tongs wl_RL_153 rfl rfl (by decide) rfl rfl hM hS rfl rfl (Nat.le_trans (by decide) hRf) (Nat.le_trans (by decide) hRl) (Nat.le_trans (by omega) hRc) (Nat.le_trans (by omega) hRs) (Nat.le_of_ble_eq_true rfl) dL_law_468 rfl) hO hS (fun H locs hM hO hS => ?_)
  refine lv_istore (lv' := [(7, .int bv), (6, .int (nI cd)), (0, .ref b), (1, .ref (X.1 + 0)), (2, .ref (X.1 + 433)), (3, .ref (X.1 + 440)), (4, .ref (X.1 + 441)), (5, .int i)]) hx hb dL_law_471 hl (by decide) rfl (fun ls hl => ?_)
  refine lv_aload_n hx hb dL_law_473 rfl (lv_at hl 4 rfl) ?_
  refine gb_i (gq_V (c0 := 433) (As := []) (ci := 9) (rm := { frames := 0, cells := 0, slots := 0, locals := 0 }) E hml hl.1 (c_X9_thrown l X 433 σ2 rfl (show f_X9_thrown 433 σ2 = some (nI cd, σ2) from congrArg (fun v => some (v, σ2)) w3)) wt_X9_thrown wl_RL_138 rfl rfl (by decide) rfl rfl hM hS rfl rfl (Nat.le_trans (by decide) hRf) (Nat.le_trans (by decide) hRl) (Nat.le_trans (by omega) hRc) (Nat.le_trans (by omega) hRs) (Nat.le_of_ble_eq_true rfl) dL_law_474 rfl) hO hS (fun H locs hM hO hS => ?_)
  refine lv_iload hx hb dL_law_477 (lv_at hl 1 rfl) ?_
  refine lv_icmp_eq (tgt := 484) hx hb dL_law_479 (by decide) (fun _ => ?_) (fun hne => absurd rfl hne)
  refine lv_iload hx hb dL_law_484 (lv_at hl 1 rfl) ?_
  have fin : W p l e R s m args below meth c H locs (cells + 1 + 0 + 0) (slots + 6 + 0 + 0) Q (F0 m 501 ls []) := by
    refine lv_goto (tgt := 2231) hx hb dL_law_501 (by decide) ?_
    exact kk H locs ls σ2 z1 w _ _ (by decide) (by decide) w4 hM hO hS ⟨hl.1, hl.2.1, fun q hq => hl.2.2 q (List.mem_cons_of_mem _ (List.mem_cons_of_mem _ hq))⟩
  refine lv_if_ne (tgt := 501) hx hb dL_law_486 (by decide) (fun _ => fin) (fun h0 => ?_)
  have hcd : cd = 0 := by
    have h1 : nI cd = nI 0 := h0
    rw [p_eq (by omega) (by decide)] at h1; exact h1
  have w7 := w6 hcd
  refine lv_aload_n hx hb dL_law_489 rfl (lv_at hl 5 rfl) ?_
  refine lv_iconst (v := (0 : Int32)) hx hb dL_law_490 (by decide) ?_
  refine gl_lld E hO dL_law_491 ?_
  refine lv_iload hx hb dL_law_492 (lv_at hl 0 rfl) ?_
  refine lv_i2l (v := bv.toInt64) hx hb dL_law_494 rfl ?_
  refine lr_lcmp hx hb dL_law_495 w7 ?_
  exact lv_if_eq (tgt := 501) hx hb dL_law_496 (by decide) (fun _ => fin) (fun hne => absurd rfl hne)
set_option maxRecDepth 100000 in
set_option maxHeartbeats 4000000 in
theorem cs_5 {p : Program} {l : Launch} {e : Env} {R : Room} {s : State} {m : MethodId} {args : Array Value} {below : List Frame} {meth : Method} {c : Code} {H : Heap} {locs : List Loc} {ls : Array Slot} {cells slots : Nat} {Q : State → Prop} {X : gX} {z : Nat → Int64} {w : Nat → UInt64} (E : gE2 p s m args c cL_law X) (hml : c.maxLocals = 9) (hl0 : l.stackTraces = false) (hRf : 16 ≤ R.frames) (hRl : 1000 ≤ R.locals) (hRc : cells + 8 ≤ R.cells) (hRs : slots + 48 ≤ R.slots) {b L : Nat} {xs : Nat → Int32} (hXs : va_X b L xs s s.heap) (hbl : b < s.heap.size) (hbA : ¬ gA2 X b) {i : Int32} (hin : ∀ k : Nat, k < 5 → vp_in (i + nI k) L) {N : Nat} {σ : gMem} (hR : RR N σ σ) (hN : N ≤ 900000) (hM : gM X σ H) (hO : gO X z w H) (hS : va_S (gA2 X) s.heap H locs) (hl : lv_has ls 9 [(0, .ref b), (1, .ref (X.1 + 0)), (2, .ref (X.1 + 433)), (3, .ref (X.1 + 440)), (4, .ref (X.1 + 441)), (5, .int i)]) (kk : ∀ (H : Heap) (locs : List Loc) (ls : Array Slot) (σ : gMem) (z : Nat → Int64) (w : Nat → UInt64) (c1 s1 : Nat), c1 ≤ 8 → s1 ≤ 48 → RR (N + 1440) σ σ → gM X σ H → gO X z w H → va_S (gA2 X) s.heap H locs → lv_has ls 9 [(0, .ref b), (1, .ref (X.1 + 0)), (2, .ref (X.1 + 433)), (3, .ref (X.1 + 440)), (4, .ref (X.1 + 441)), (5, .int i)] → W p l e R s m args below meth c H locs (cells + c1) (slots + s1) Q (F0 m 2231 ls [])) : W p l e R s m args below meth c H locs cells slots Q (F0 m 504 ls []) := by
  obtain ⟨hx, hb⟩ := (⟨E.1.1, E.1.2.1⟩ : _ ∧ _)
  refine lv_aload_n hx hb dL_law_504 rfl (lv_at hl 1 rfl) ?_
  refine lv_aload_n hx hb dL_law_505 rfl (lv_at hl 0 rfl) ?_
  refine lv_iload hx hb dL_law_506 (lv_at hl 5 rfl) ?_
  refine lv_iconst (v := (1 : Int32)) hx hb dL_law_508 (by decide) ?_
  refine lv_iadd hx hb dL_law_509 ?_
  refine va_sld hx hb hXs hbl hbA hS (hin 1 (by decide)) dL_law_510 ?_
  refine lv_aload_n hx hb dL_law_511 rfl (lv_at hl 0 rfl) ?_
  refine lv_iload hx hb dL_law_512 (lv_at hl 5 rfl) ?_
  refine lv_iconst (v := (2 : Int32)) hx hb dL_law_514 (by decide) ?_
  refine lv_iadd hx hb dL_law_515 ?_
  refine va_sld hx hb hXs hbl hbA hS (hin 2 (by decide)) dL_law_516 ?_
  refine lv_aload_n hx hb dL_law_517 rfl (lv_at hl 3 rfl) ?_
  obtain ⟨cd, z1, σ1, bv, σ2, w1, w2, w3, w4, w5, w6⟩ := stp_tongsOf (z := z) (w := w) hR hN (xs (i + nI 1).toNatClampNeg) (xs (i + nI 2).toNatClampNeg)
  refine gq_W (n := 4) (As := [.ref (X.1 + 0), .int (xs (i + nI 1).toNatClampNeg), .int (xs (i + nI 2).toNatClampNeg), .ref (X.1 + 440)]) E hml hl.1 (cw_tongsOf l X hl0 (xs (i + nI 1).toNatClampNeg) (xs (i + nI 2).toNatClampNeg) z w σ w1) wlw_tongsOf_s wlw_ini wlw_tongsOf_c (by decide +kernel) wlL_154 rfl hM hO hS rfl rfl (Nat.le_trans (by decide) hRf) (Nat.le_trans (by decide) hRl) (Nat.le_trans (by omega) hRc) (Nat.le_trans (by omega) hRs) (Nat.le_of_ble_eq_true rfl) dL_law_518 rfl (fun H locs hM hO hS => ?_)
  refine lv_istore (lv' := [(6, .int (nI cd)), (0, .ref b), (1, .ref (X.1 + 0)), (2, .ref (X.1 + 433)), (3, .ref (X.1 + 440)), (4, .ref (X.1 + 441)), (5, .int i)]) hx hb dL_law_521 hl (by decide) rfl (fun ls hl => ?_)
  refine lv_aload_n hx hb dL_law_523 rfl (lv_at hl 3 rfl) ?_
  refine lv_aload_n hx hb dL_law_524 rfl (lv_at hl 1 rfl) ?_
  refine lv_iload hx hb dL_law_525 (lv_at hl 6 rfl) ?_
  refine lv_iconst (v := (1 : Int32)) hx hb dL_law_527 (by decide) ?_
  refine lv_iadd hx hb dL_law_528 ?_
  refine va_sld hx hb hXs hbl hbA hS (hin 1 (by decide)) dL_law_529 ?_
  refine lv_aload_n hx hb dL_law_530 rfl (lv_at hl 1 rfl) ?_
  refine lv_iload hx hb dL_law_531 (lv_at hl 6 rfl) ?_
  refine lv_iconst (v := (2 : Int32)) hx hb dL_law_533 (by decide) ?_
  refine lv_iadd hx hb dL_law_534 ?_
  refine va_sld hx hb hXs hbl hbA hS (hin 2 (by decide)) dL_law_535 ?_
  refine gb_i (gq_V (c0 := 433) (As := [.int (xs (i + nI 1).toNatClampNeg), .int (xs (i + nI 2).toNatClampNeg)]) (ci := 9) (rm := { frames := 2, cells := 0, slots := 0, locals := 43 }) E hml hl.1 (c_X9_tongsOf l X 433 (xs (i + nI 1).toNatClampNeg) (xs (i + nI 2).toNatClampNeg) σ1 rfl w2) wt_X9_tongsOf wl_RL_156 rfl rfl (by decide) rfl rfl hM hS rfl rfl (Nat.le_trans (by decide) hRf) (Nat.le_trans (by decide) hRl) (Nat.le_trans (by omega) hRc) (Nat.le_trans (by omega) hRs) (Nat.le_of_ble_eq_true rfl) dL_law_536 rfl) hO hS (fun H locs hM hO hS => ?_)
  refine lv_istore (lv' := [(7, .int bv), (6, .int (nI cd)), (0, .ref b), (1, .ref (X.1 + 0)), (2, .ref (X.1 + 433)), (3, .ref (X.1 + 440)), (4, .ref (X.1 + 441)), (5, .int i)]) hx hb dL_law_539 hl (by decide) rfl (fun ls hl => ?_)
  refine lv_aload_n hx hb dL_law_541 rfl (lv_at hl 4 rfl) ?_
  refine gb_i (gq_V (c0 := 433) (As := []) (ci := 9) (rm := { frames := 0, cells := 0, slots := 0, locals := 0 }) E hml hl.1 (c_X9_thrown l X 433 σ2 rfl (show f_X9_thrown 433 σ2 = some (nI cd, σ2) from congrArg (fun v => some (v, σ2)) w3)) wt_X9_thrown wl_RL_138 rfl rfl (by decide) rfl rfl hM hS rfl rfl (Nat.le_trans (by decide) hRf) (Nat.le_trans (by decide) hRl) (Nat.le_trans (by omega) hRc) (Nat.le_trans (by omega) hRs) (Nat.le_of_ble_eq_true rfl) dL_law_542 rfl) hO hS (fun H locs hM hO hS => ?_)
  refine lv_iload hx hb dL_law_545 (lv_at hl 1 rfl) ?_
  refine lv_icmp_eq (tgt := 552) hx hb dL_law_547 (by decide) (fun _ => ?_) (fun hne => absurd rfl hne)
  refine lv_iload hx hb dL_law_552 (lv_at hl 1 rfl) ?_
  have fin : W p l e R s m args below meth c H locs (cells + 2 + 0 + 0) (slots + 12 + 0 + 0) Q (F0 m 569 ls []) := by
    refine lv_goto (tgt := 2231) hx hb dL_law_569 (by decide) ?_
    exact kk H locs ls σ2 z1 w _ _ (by decide) (by decide) w4 hM hO hS ⟨hl.1, hl.2.1, fun q hq => hl.2.2 q (List.mem_cons_of_mem _ (List.mem_cons_of_mem _ hq))⟩
  refine lv_if_ne (tgt := 569) hx hb dL_law_554 (by decide) (fun _ => fin) (fun h0 => ?_)
  have hcd : cd = 0 := by
    have h1 : nI cd = nI 0 := h0
    rw [p_eq (by omega) (by decide)] at h1; exact h1
  have w7 := w6 hcd
  refine lv_aload_n hx hb dL_law_557 rfl (lv_at hl 5 rfl) ?_
  refine lv_iconst (v := (0 : Int32)) hx hb dL_law_558 (by decide) ?_
  refine gl_lld E hO dL_law_559 ?_
  refine lv_iload hx hb dL_law_560 (lv_at hl 0 rfl) ?_
  refine lv_i2l (v := bv.toInt64) hx hb dL_law_562 rfl ?_
  refine lr_lcmp hx hb dL_law_563 w7 ?_
  exact lv_if_eq (tgt := 569) hx hb dL_law_564 (by decide) (fun _ => fin) (fun hne => absurd rfl hne)
set_option maxRecDepth 100000 in
set_option maxHeartbeats 4000000 in
theorem cs_6 {p : Program} {l : Launch} {e : Env} {R : Room} {s : State} {m : MethodId} {args : Array Value} {below : List Frame} {meth : Method} {c : Code} {H : Heap} {locs : List Loc} {ls : Array Slot} {cells slots : Nat} {Q : State → Prop} {X : gX} {z : Nat → Int64} {w : Nat → UInt64} (E : gE2 p s m args c cL_law X) (hml : c.maxLocals = 9) (hl0 : l.stackTraces = false) (hRf : 16 ≤ R.frames) (hRl : 1000 ≤ R.locals) (hRc : cells + 8 ≤ R.cells) (hRs : slots + 48 ≤ R.slots) {b L : Nat} {xs : Nat → Int32} (hXs : va_X b L xs s s.heap) (hbl : b < s.heap.size) (hbA : ¬ gA2 X b) {i : Int32} (hin : ∀ k : Nat, k < 5 → vp_in (i + nI k) L) {N : Nat} {σ : gMem} (hR : RR N σ σ) (hN : N ≤ 900000) (hM : gM X σ H) (hO : gO X z w H) (hS : va_S (gA2 X) s.heap H locs) (hl : lv_has ls 9 [(0, .ref b), (1, .ref (X.1 + 0)), (2, .ref (X.1 + 433)), (3, .ref (X.1 + 440)), (4, .ref (X.1 + 441)), (5, .int i)]) (kk : ∀ (H : Heap) (locs : List Loc) (ls : Array Slot) (σ : gMem) (z : Nat → Int64) (w : Nat → UInt64) (c1 s1 : Nat), c1 ≤ 8 → s1 ≤ 48 → RR (N + 1440) σ σ → gM X σ H → gO X z w H → va_S (gA2 X) s.heap H locs → lv_has ls 9 [(0, .ref b), (1, .ref (X.1 + 0)), (2, .ref (X.1 + 433)), (3, .ref (X.1 + 440)), (4, .ref (X.1 + 441)), (5, .int i)] → W p l e R s m args below meth c H locs (cells + c1) (slots + s1) Q (F0 m 2231 ls [])) : W p l e R s m args below meth c H locs cells slots Q (F0 m 572 ls []) := by
  obtain ⟨hx, hb⟩ := (⟨E.1.1, E.1.2.1⟩ : _ ∧ _)
  refine lv_aload_n hx hb dL_law_572 rfl (lv_at hl 1 rfl) ?_
  refine lv_aload_n hx hb dL_law_573 rfl (lv_at hl 0 rfl) ?_
  refine lv_iload hx hb dL_law_574 (lv_at hl 5 rfl) ?_
  refine lv_iconst (v := (1 : Int32)) hx hb dL_law_576 (by decide) ?_
  refine lv_iadd hx hb dL_law_577 ?_
  refine va_sld hx hb hXs hbl hbA hS (hin 1 (by decide)) dL_law_578 ?_
  refine lv_aload_n hx hb dL_law_579 rfl (lv_at hl 3 rfl) ?_
  obtain ⟨cd, z1, σ1, bv, σ2, w1, w2, w3, w4, w5, w6⟩ := stp_tongsFor (z := z) (w := w) hR hN (xs (i + nI 1).toNatClampNeg)
  refine gq_W (n := 3) (As := [.ref (X.1 + 0), .int (xs (i + nI 1).toNatClampNeg), .ref (X.1 + 440)]) E hml hl.1 (cw_tongsFor l X hl0 (xs (i + nI 1).toNatClampNeg) z w σ w1) wlw_tongsFor_s wlw_ini wlw_tongsFor_c (by decide +kernel) wlL_157 rfl hM hO hS rfl rfl (Nat.le_trans (by decide) hRf) (Nat.le_trans (by decide) hRl) (Nat.le_trans (by omega) hRc) (Nat.le_trans (by omega) hRs) (Nat.le_of_ble_eq_true rfl) dL_law_580 rfl (fun H locs hM hO hS => ?_)
  refine lv_istore (lv' := [(6, .int (nI cd)), (0, .ref b), (1, .ref (X.1 + 0)), (2, .ref (X.1 + 433)), (3, .ref (X.1 + 440)), (4, .ref (X.1 + 441)), (5, .int i)]) hx hb dL_law_583 hl (by decide) rfl (fun ls hl => ?_)
  refine lv_aload_n hx hb dL_law_585 rfl (lv_at hl 3 rfl) ?_
  refine lv_aload_n hx hb dL_law_586 rfl (lv_at hl 1 rfl) ?_
  refine lv_iload hx hb dL_law_587 (lv_at hl 6 rfl) ?_
  refine lv_iconst (v := (1 : Int32)) hx hb dL_law_589 (by decide) ?_
  refine lv_iadd hx hb dL_law_590 ?_
  refine va_sld hx hb hXs hbl hbA hS (hin 1 (by decide)) dL_law_591 ?_
  refine gb_i (gq_V (c0 := 433) (As := [.int (xs (i + nI 1).toNatClampNeg)]) (ci := 9) (rm := { frames := 1, cells := 0, slots := 0, locals := 22 }) E hml hl.1 (c_X9_tongsFor l X 433 (xs (i + nI 1).toNatClampNeg) σ1 rfl w2) wt_X9_tongsFor wl_RL_159 rfl rfl (by decide) rfl rfl hM hS rfl rfl (Nat.le_trans (by decide) hRf) (Nat.le_trans (by decide) hRl) (Nat.le_trans (by omega) hRc) (Nat.le_trans (by omega) hRs) (Nat.le_of_ble_eq_true rfl) dL_law_592 rfl) hO hS (fun H locs hM hO hS => ?_)
  refine lv_istore (lv' := [(7, .int bv), (6, .int (nI cd)), (0, .ref b), (1, .ref (X.1 + 0)), (2, .ref (X.1 + 433)), (3, .ref (X.1 + 440)), (4, .ref (X.1 + 441)), (5, .int i)]) hx hb dL_law_595 hl (by decide) rfl (fun ls hl => ?_)
  refine lv_aload_n hx hb dL_law_597 rfl (lv_at hl 4 rfl) ?_
  refine gb_i (gq_V (c0 := 433) (As := []) (ci := 9) (rm := { frames := 0, cells := 0, slots := 0, locals := 0 }) E hml hl.1 (c_X9_thrown l X 433 σ2 rfl (show f_X9_thrown 433 σ2 = some (nI cd, σ2) from congrArg (fun v => some (v, σ2)) w3)) wt_X9_thrown wl_RL_138 rfl rfl (by decide) rfl rfl hM hS rfl rfl (Nat.le_trans (by decide) hRf) (Nat.le_trans (by decide) hRl) (Nat.le_trans (by omega) hRc) (Nat.le_trans (by omega) hRs) (Nat.le_of_ble_eq_true rfl) dL_law_598 rfl) hO hS (fun H locs hM hO hS => ?_)
  refine lv_iload hx hb dL_law_601 (lv_at hl 1 rfl) ?_
  refine lv_icmp_eq (tgt := 608) hx hb dL_law_603 (by decide) (fun _ => ?_) (fun hne => absurd rfl hne)
  refine lv_iload hx hb dL_law_608 (lv_at hl 1 rfl) ?_
  have fin : W p l e R s m args below meth c H locs (cells + 1 + 0 + 0) (slots + 6 + 0 + 0) Q (F0 m 625 ls []) := by
    refine lv_goto (tgt := 2231) hx hb dL_law_625 (by decide) ?_
    exact kk H locs ls σ2 z1 w _ _ (by decide) (by decide) w4 hM hO hS ⟨hl.1, hl.2.1, fun q hq => hl.2.2 q (List.mem_cons_of_mem _ (List.mem_cons_of_mem _ hq))⟩
  refine lv_if_ne (tgt := 625) hx hb dL_law_610 (by decide) (fun _ => fin) (fun h0 => ?_)
  have hcd : cd = 0 := by
    have h1 : nI cd = nI 0 := h0
    rw [p_eq (by omega) (by decide)] at h1; exact h1
  have w7 := w6 hcd
  refine lv_aload_n hx hb dL_law_613 rfl (lv_at hl 5 rfl) ?_
  refine lv_iconst (v := (0 : Int32)) hx hb dL_law_614 (by decide) ?_
  refine gl_lld E hO dL_law_615 ?_
  refine lv_iload hx hb dL_law_616 (lv_at hl 0 rfl) ?_
  refine lv_i2l (v := bv.toInt64) hx hb dL_law_618 rfl ?_
  refine lr_lcmp hx hb dL_law_619 w7 ?_
  exact lv_if_eq (tgt := 625) hx hb dL_law_620 (by decide) (fun _ => fin) (fun hne => absurd rfl hne)
set_option maxRecDepth 100000 in
set_option maxHeartbeats 4000000 in
theorem cs_7 {p : Program} {l : Launch} {e : Env} {R : Room} {s : State} {m : MethodId} {args : Array Value} {below : List Frame} {meth : Method} {c : Code} {H : Heap} {locs : List Loc} {ls : Array Slot} {cells slots : Nat} {Q : State → Prop} {X : gX} {z : Nat → Int64} {w : Nat → UInt64} (E : gE2 p s m args c cL_law X) (hml : c.maxLocals = 9) (hl0 : l.stackTraces = false) (hRf : 16 ≤ R.frames) (hRl : 1000 ≤ R.locals) (hRc : cells + 8 ≤ R.cells) (hRs : slots + 48 ≤ R.slots) {b L : Nat} {xs : Nat → Int32} (hXs : va_X b L xs s s.heap) (hbl : b < s.heap.size) (hbA : ¬ gA2 X b) {i : Int32} (hin : ∀ k : Nat, k < 5 → vp_in (i + nI k) L) {N : Nat} {σ : gMem} (hR : RR N σ σ) (hN : N ≤ 900000) (hM : gM X σ H) (hO : gO X z w H) (hS : va_S (gA2 X) s.heap H locs) (hl : lv_has ls 9 [(0, .ref b), (1, .ref (X.1 + 0)), (2, .ref (X.1 + 433)), (3, .ref (X.1 + 440)), (4, .ref (X.1 + 441)), (5, .int i)]) (kk : ∀ (H : Heap) (locs : List Loc) (ls : Array Slot) (σ : gMem) (z : Nat → Int64) (w : Nat → UInt64) (c1 s1 : Nat), c1 ≤ 8 → s1 ≤ 48 → RR (N + 1440) σ σ → gM X σ H → gO X z w H → va_S (gA2 X) s.heap H locs → lv_has ls 9 [(0, .ref b), (1, .ref (X.1 + 0)), (2, .ref (X.1 + 433)), (3, .ref (X.1 + 440)), (4, .ref (X.1 + 441)), (5, .int i)] → W p l e R s m args below meth c H locs (cells + c1) (slots + s1) Q (F0 m 2231 ls [])) : W p l e R s m args below meth c H locs cells slots Q (F0 m 628 ls []) := by
  obtain ⟨hx, hb⟩ := (⟨E.1.1, E.1.2.1⟩ : _ ∧ _)
  refine lv_aload_n hx hb dL_law_628 rfl (lv_at hl 1 rfl) ?_
  refine lv_aload_n hx hb dL_law_629 rfl (lv_at hl 3 rfl) ?_
  obtain ⟨cd, z1, σ1, bv, σ2, w1, w2, w3, w4, w5, w6⟩ := stp_tower (z := z) (w := w) hR hN 
  refine gq_W (n := 2) (As := [.ref (X.1 + 0), .ref (X.1 + 440)]) E hml hl.1 (cw_tower l X hl0  z w σ w1) wlw_tower_s wlw_ini wlw_tower_c (by decide +kernel) wlL_160 rfl hM hO hS rfl rfl (Nat.le_trans (by decide) hRf) (Nat.le_trans (by decide) hRl) (Nat.le_trans (by omega) hRc) (Nat.le_trans (by omega) hRs) (Nat.le_of_ble_eq_true rfl) dL_law_630 rfl (fun H locs hM hO hS => ?_)
  refine lv_istore (lv' := [(6, .int (nI cd)), (0, .ref b), (1, .ref (X.1 + 0)), (2, .ref (X.1 + 433)), (3, .ref (X.1 + 440)), (4, .ref (X.1 + 441)), (5, .int i)]) hx hb dL_law_633 hl (by decide) rfl (fun ls hl => ?_)
  refine lv_aload_n hx hb dL_law_635 rfl (lv_at hl 3 rfl) ?_
  refine gb_i (gq_V (c0 := 433) (As := []) (ci := 9) (rm := { frames := 2, cells := 0, slots := 0, locals := 46 }) E hml hl.1 (c_X9_tower l X 433  σ1 rfl w2) wt_X9_tower wl_RL_163 rfl rfl (by decide) rfl rfl hM hS rfl rfl (Nat.le_trans (by decide) hRf) (Nat.le_trans (by decide) hRl) (Nat.le_trans (by omega) hRc) (Nat.le_trans (by omega) hRs) (Nat.le_of_ble_eq_true rfl) dL_law_636 rfl) hO hS (fun H locs hM hO hS => ?_)
  refine lv_istore (lv' := [(7, .int bv), (6, .int (nI cd)), (0, .ref b), (1, .ref (X.1 + 0)), (2, .ref (X.1 + 433)), (3, .ref (X.1 + 440)), (4, .ref (X.1 + 441)), (5, .int i)]) hx hb dL_law_639 hl (by decide) rfl (fun ls hl => ?_)
  refine lv_aload_n hx hb dL_law_641 rfl (lv_at hl 4 rfl) ?_
  refine gb_i (gq_V (c0 := 433) (As := []) (ci := 9) (rm := { frames := 0, cells := 0, slots := 0, locals := 0 }) E hml hl.1 (c_X9_thrown l X 433 σ2 rfl (show f_X9_thrown 433 σ2 = some (nI cd, σ2) from congrArg (fun v => some (v, σ2)) w3)) wt_X9_thrown wl_RL_138 rfl rfl (by decide) rfl rfl hM hS rfl rfl (Nat.le_trans (by decide) hRf) (Nat.le_trans (by decide) hRl) (Nat.le_trans (by omega) hRc) (Nat.le_trans (by omega) hRs) (Nat.le_of_ble_eq_true rfl) dL_law_642 rfl) hO hS (fun H locs hM hO hS => ?_)
  refine lv_iload hx hb dL_law_645 (lv_at hl 1 rfl) ?_
  refine lv_icmp_eq (tgt := 652) hx hb dL_law_647 (by decide) (fun _ => ?_) (fun hne => absurd rfl hne)
  refine lv_iload hx hb dL_law_652 (lv_at hl 1 rfl) ?_
  have fin : W p l e R s m args below meth c H locs (cells + 1 + 0 + 0) (slots + 6 + 0 + 0) Q (F0 m 669 ls []) := by
    refine lv_goto (tgt := 2231) hx hb dL_law_669 (by decide) ?_
    exact kk H locs ls σ2 z1 w _ _ (by decide) (by decide) w4 hM hO hS ⟨hl.1, hl.2.1, fun q hq => hl.2.2 q (List.mem_cons_of_mem _ (List.mem_cons_of_mem _ hq))⟩
  refine lv_if_ne (tgt := 669) hx hb dL_law_654 (by decide) (fun _ => fin) (fun h0 => ?_)
  have hcd : cd = 0 := by
    have h1 : nI cd = nI 0 := h0
    rw [p_eq (by omega) (by decide)] at h1; exact h1
  have w7 := w6 hcd
  refine lv_aload_n hx hb dL_law_657 rfl (lv_at hl 5 rfl) ?_
  refine lv_iconst (v := (0 : Int32)) hx hb dL_law_658 (by decide) ?_
  refine gl_lld E hO dL_law_659 ?_
  refine lv_iload hx hb dL_law_660 (lv_at hl 0 rfl) ?_
  refine lv_i2l (v := bv.toInt64) hx hb dL_law_662 rfl ?_
  refine lr_lcmp hx hb dL_law_663 w7 ?_
  exact lv_if_eq (tgt := 669) hx hb dL_law_664 (by decide) (fun _ => fin) (fun hne => absurd rfl hne)
set_option maxRecDepth 100000 in
set_option maxHeartbeats 4000000 in
theorem cs_8 {p : Program} {l : Launch} {e : Env} {R : Room} {s : State} {m : MethodId} {args : Array Value} {below : List Frame} {meth : Method} {c : Code} {H : Heap} {locs : List Loc} {ls : Array Slot} {cells slots : Nat} {Q : State → Prop} {X : gX} {z : Nat → Int64} {w : Nat → UInt64} (E : gE2 p s m args c cL_law X) (hml : c.maxLocals = 9) (hl0 : l.stackTraces = false) (hRf : 16 ≤ R.frames) (hRl : 1000 ≤ R.locals) (hRc : cells + 8 ≤ R.cells) (hRs : slots + 48 ≤ R.slots) {b L : Nat} {xs : Nat → Int32} (hXs : va_X b L xs s s.heap) (hbl : b < s.heap.size) (hbA : ¬ gA2 X b) {i : Int32} (hin : ∀ k : Nat, k < 5 → vp_in (i + nI k) L) {N : Nat} {σ : gMem} (hR : RR N σ σ) (hN : N ≤ 900000) (hM : gM X σ H) (hO : gO X z w H) (hS : va_S (gA2 X) s.heap H locs) (hl : lv_has ls 9 [(0, .ref b), (1, .ref (X.1 + 0)), (2, .ref (X.1 + 433)), (3, .ref (X.1 + 440)), (4, .ref (X.1 + 441)), (5, .int i)]) (kk : ∀ (H : Heap) (locs : List Loc) (ls : Array Slot) (σ : gMem) (z : Nat → Int64) (w : Nat → UInt64) (c1 s1 : Nat), c1 ≤ 8 → s1 ≤ 48 → RR (N + 1440) σ σ → gM X σ H → gO X z w H → va_S (gA2 X) s.heap H locs → lv_has ls 9 [(0, .ref b), (1, .ref (X.1 + 0)), (2, .ref (X.1 + 433)), (3, .ref (X.1 + 440)), (4, .ref (X.1 + 441)), (5, .int i)] → W p l e R s m args below meth c H locs (cells + c1) (slots + s1) Q (F0 m 2231 ls [])) : W p l e R s m args below meth c H locs cells slots Q (F0 m 672 ls []) := by
  obtain ⟨hx, hb⟩ := (⟨E.1.1, E.1.2.1⟩ : _ ∧ _)
  refine lv_aload_n hx hb dL_law_672 rfl (lv_at hl 1 rfl) ?_
  refine lv_aload_n hx hb dL_law_673 rfl (lv_at hl 0 rfl) ?_
  refine lv_iload hx hb dL_law_674 (lv_at hl 5 rfl) ?_
  refine lv_iconst (v := (1 : Int32)) hx hb dL_law_676 (by decide) ?_
  refine lv_iadd hx hb dL_law_677 ?_
  refine va_sld hx hb hXs hbl hbA hS (hin 1 (by decide)) dL_law_678 ?_
  refine lv_aload_n hx hb dL_law_679 rfl (lv_at hl 0 rfl) ?_
  refine lv_iload hx hb dL_law_680 (lv_at hl 5 rfl) ?_
  refine lv_iconst (v := (2 : Int32)) hx hb dL_law_682 (by decide) ?_
  refine lv_iadd hx hb dL_law_683 ?_
  refine va_sld hx hb hXs hbl hbA hS (hin 2 (by decide)) dL_law_684 ?_
  refine lv_aload_n hx hb dL_law_685 rfl (lv_at hl 0 rfl) ?_
  refine lv_iload hx hb dL_law_686 (lv_at hl 5 rfl) ?_
  refine lv_iconst (v := (3 : Int32)) hx hb dL_law_688 (by decide) ?_
  refine lv_iadd hx hb dL_law_689 ?_
  refine va_sld hx hb hXs hbl hbA hS (hin 3 (by decide)) dL_law_690 ?_
  refine lv_aload_n hx hb dL_law_691 rfl (lv_at hl 0 rfl) ?_
  refine lv_iload hx hb dL_law_692 (lv_at hl 5 rfl) ?_
  refine lv_iconst (v := (4 : Int32)) hx hb dL_law_694 (by decide) ?_
  refine lv_iadd hx hb dL_law_695 ?_
  refine va_sld hx hb hXs hbl hbA hS (hin 4 (by decide)) dL_law_696 ?_
  refine lv_aload_n hx hb dL_law_697 rfl (lv_at hl 3 rfl) ?_
  obtain ⟨cd, z1, σ1, bv, σ2, w1, w2, w3, w4, w5, w6⟩ := stp_lay (z := z) (w := w) hR hN (xs (i + nI 1).toNatClampNeg) (xs (i + nI 2).toNatClampNeg) (xs (i + nI 3).toNatClampNeg) (xs (i + nI 4).toNatClampNeg)
  refine gq_W (n := 6) (As := [.ref (X.1 + 0), .int (xs (i + nI 1).toNatClampNeg), .int (xs (i + nI 2).toNatClampNeg), .int (xs (i + nI 3).toNatClampNeg), .int (xs (i + nI 4).toNatClampNeg), .ref (X.1 + 440)]) E hml hl.1 (cw_lay l X hl0 (xs (i + nI 1).toNatClampNeg) (xs (i + nI 2).toNatClampNeg) (xs (i + nI 3).toNatClampNeg) (xs (i + nI 4).toNatClampNeg) z w σ w1) wlw_lay_s wlw_ini wlw_lay_c (by decide +kernel) wlL_164 rfl hM hO hS rfl rfl (Nat.le_trans (by decide) hRf) (Nat.le_trans (by decide) hRl) (Nat.le_trans (by omega) hRc) (Nat.le_trans (by omega) hRs) (Nat.le_of_ble_eq_true rfl) dL_law_698 rfl (fun H locs hM hO hS => ?_)
  refine lv_istore (lv' := [(6, .int (nI cd)), (0, .ref b), (1, .ref (X.1 + 0)), (2, .ref (X.1 + 433)), (3, .ref (X.1 + 440)), (4, .ref (X.1 + 441)), (5, .int i)]) hx hb dL_law_701 hl (by decide) rfl (fun ls hl => ?_)
  refine lv_aload_n hx hb dL_law_703 rfl (lv_at hl 3 rfl) ?_
  refine lv_aload_n hx hb dL_law_704 rfl (lv_at hl 1 rfl) ?_
  refine lv_iload hx hb dL_law_705 (lv_at hl 6 rfl) ?_
  refine lv_iconst (v := (1 : Int32)) hx hb dL_law_707 (by decide) ?_
  refine lv_iadd hx hb dL_law_708 ?_
  refine va_sld hx hb hXs hbl hbA hS (hin 1 (by decide)) dL_law_709 ?_
  refine lv_aload_n hx hb dL_law_710 rfl (lv_at hl 1 rfl) ?_
  refine lv_iload hx hb dL_law_711 (lv_at hl 6 rfl) ?_
  refine lv_iconst (v := (2 : Int32)) hx hb dL_law_713 (by decide) ?_
  refine lv_iadd hx hb dL_law_714 ?_
  refine va_sld hx hb hXs hbl hbA hS (hin 2 (by decide)) dL_law_715 ?_
  refine lv_aload_n hx hb dL_law_716 rfl (lv_at hl 1 rfl) ?_
  refine lv_iload hx hb dL_law_717 (lv_at hl 6 rfl) ?_
  refine lv_iconst (v := (3 : Int32)) hx hb dL_law_719 (by decide) ?_
  refine lv_iadd hx hb dL_law_720 ?_
  refine va_sld hx hb hXs hbl hbA hS (hin 3 (by decide)) dL_law_721 ?_
  refine lv_aload_n hx hb dL_law_722 rfl (lv_at hl 1 rfl) ?_
  refine lv_iload hx hb dL_law_723 (lv_at hl 6 rfl) ?_
  refine lv_iconst (v := (4 : Int32)) hx hb dL_law_725 (by decide) ?_
  refine lv_iadd hx hb dL_law_726 ?_
  refine va_sld hx hb hXs hbl hbA hS (hin 4 (by decide)) dL_law_727 ?_
  refine gb_i (gq_V (c0 := 433) (As := [.int (xs (i + nI 1).toNatClampNeg), .int (xs (i + nI 2).toNatClampNeg), .int (xs (i + nI 3).toNatClampNeg), .int (xs (i + nI 4).toNatClampNeg)]) (ci := 9) (rm := { frames := 5, cells := 0, slots := 0, locals := 122 }) E hml hl.1 (c_X9_lay l X 433 (xs (i + nI 1).toNatClampNeg) (xs (i + nI 2).toNatClampNeg) (xs (i + nI 3).toNatClampNeg) (xs (i + nI 4).toNatClampNeg) σ1 rfl w2) wt_X9_lay wl_RL_167 rfl rfl (by decide) rfl rfl hM hS rfl rfl (Nat.le_trans (by decide) hRf) (Nat.le_trans (by decide) hRl) (Nat.le_trans (by omega) hRc) (Nat.le_trans (by omega) hRs) (Nat.le_of_ble_eq_true rfl) dL_law_728 rfl) hO hS (fun H locs hM hO hS => ?_)
  refine lv_istore (lv' := [(7, .int bv), (6, .int (nI cd)), (0, .ref b), (1, .ref (X.1 + 0)), (2, .ref (X.1 + 433)), (3, .ref (X.1 + 440)), (4, .ref (X.1 + 441)), (5, .int i)]) hx hb dL_law_731 hl (by decide) rfl (fun ls hl => ?_)
  refine lv_aload_n hx hb dL_law_733 rfl (lv_at hl 4 rfl) ?_
  refine gb_i (gq_V (c0 := 433) (As := []) (ci := 9) (rm := { frames := 0, cells := 0, slots := 0, locals := 0 }) E hml hl.1 (c_X9_thrown l X 433 σ2 rfl (show f_X9_thrown 433 σ2 = some (nI cd, σ2) from congrArg (fun v => some (v, σ2)) w3)) wt_X9_thrown wl_RL_138 rfl rfl (by decide) rfl rfl hM hS rfl rfl (Nat.le_trans (by decide) hRf) (Nat.le_trans (by decide) hRl) (Nat.le_trans (by omega) hRc) (Nat.le_trans (by omega) hRs) (Nat.le_of_ble_eq_true rfl) dL_law_734 rfl) hO hS (fun H locs hM hO hS => ?_)
  refine lv_iload hx hb dL_law_737 (lv_at hl 1 rfl) ?_
  refine lv_icmp_eq (tgt := 744) hx hb dL_law_739 (by decide) (fun _ => ?_) (fun hne => absurd rfl hne)
  refine lv_iload hx hb dL_law_744 (lv_at hl 1 rfl) ?_
  have fin : W p l e R s m args below meth c H locs (cells + 4 + 0 + 0) (slots + 24 + 0 + 0) Q (F0 m 761 ls []) := by
    refine lv_goto (tgt := 2231) hx hb dL_law_761 (by decide) ?_
    exact kk H locs ls σ2 z1 w _ _ (by decide) (by decide) w4 hM hO hS ⟨hl.1, hl.2.1, fun q hq => hl.2.2 q (List.mem_cons_of_mem _ (List.mem_cons_of_mem _ hq))⟩
  refine lv_if_ne (tgt := 761) hx hb dL_law_746 (by decide) (fun _ => fin) (fun h0 => ?_)
  have hcd : cd = 0 := by
    have h1 : nI cd = nI 0 := h0
    rw [p_eq (by omega) (by decide)] at h1; exact h1
  have w7 := w6 hcd
  refine lv_aload_n hx hb dL_law_749 rfl (lv_at hl 5 rfl) ?_
  refine lv_iconst (v := (0 : Int32)) hx hb dL_law_750 (by decide) ?_
  refine gl_lld E hO dL_law_751 ?_
  refine lv_iload hx hb dL_law_752 (lv_at hl 0 rfl) ?_
  refine lv_i2l (v := bv.toInt64) hx hb dL_law_754 rfl ?_
  refine lr_lcmp hx hb dL_law_755 w7 ?_
  exact lv_if_eq (tgt := 761) hx hb dL_law_756 (by decide) (fun _ => fin) (fun hne => absurd rfl hne)
set_option maxRecDepth 100000 in
set_option maxHeartbeats 4000000 in
theorem cs_9 {p : Program} {l : Launch} {e : Env} {R : Room} {s : State} {m : MethodId} {args : Array Value} {below : List Frame} {meth : Method} {c : Code} {H : Heap} {locs : List Loc} {ls : Array Slot} {cells slots : Nat} {Q : State → Prop} {X : gX} {z : Nat → Int64} {w : Nat → UInt64} (E : gE2 p s m args c cL_law X) (hml : c.maxLocals = 9) (hl0 : l.stackTraces = false) (hRf : 16 ≤ R.frames) (hRl : 1000 ≤ R.locals) (hRc : cells + 8 ≤ R.cells) (hRs : slots + 48 ≤ R.slots) {b L : Nat} {xs : Nat → Int32} (hXs : va_X b L xs s s.heap) (hbl : b < s.heap.size) (hbA : ¬ gA2 X b) {i : Int32} (hin : ∀ k : Nat, k < 5 → vp_in (i + nI k) L) {N : Nat} {σ : gMem} (hR : RR N σ σ) (hN : N ≤ 900000) (hM : gM X σ H) (hO : gO X z w H) (hS : va_S (gA2 X) s.heap H locs) (hl : lv_has ls 9 [(0, .ref b), (1, .ref (X.1 + 0)), (2, .ref (X.1 + 433)), (3, .ref (X.1 + 440)), (4, .ref (X.1 + 441)), (5, .int i)]) (kk : ∀ (H : Heap) (locs : List Loc) (ls : Array Slot) (σ : gMem) (z : Nat → Int64) (w : Nat → UInt64) (c1 s1 : Nat), c1 ≤ 8 → s1 ≤ 48 → RR (N + 1440) σ σ → gM X σ H → gO X z w H → va_S (gA2 X) s.heap H locs → lv_has ls 9 [(0, .ref b), (1, .ref (X.1 + 0)), (2, .ref (X.1 + 433)), (3, .ref (X.1 + 440)), (4, .ref (X.1 + 441)), (5, .int i)] → W p l e R s m args below meth c H locs (cells + c1) (slots + s1) Q (F0 m 2231 ls [])) : W p l e R s m args below meth c H locs cells slots Q (F0 m 764 ls []) := by
  obtain ⟨hx, hb⟩ := (⟨E.1.1, E.1.2.1⟩ : _ ∧ _)
  refine lv_aload_n hx hb dL_law_764 rfl (lv_at hl 1 rfl) ?_
  refine lv_aload_n hx hb dL_law_765 rfl (lv_at hl 0 rfl) ?_
  refine lv_iload hx hb dL_law_766 (lv_at hl 5 rfl) ?_
  refine lv_iconst (v := (1 : Int32)) hx hb dL_law_768 (by decide) ?_
  refine lv_iadd hx hb dL_law_769 ?_
  refine va_sld hx hb hXs hbl hbA hS (hin 1 (by decide)) dL_law_770 ?_
  refine lv_aload_n hx hb dL_law_771 rfl (lv_at hl 0 rfl) ?_
  refine lv_iload hx hb dL_law_772 (lv_at hl 5 rfl) ?_
  refine lv_iconst (v := (2 : Int32)) hx hb dL_law_774 (by decide) ?_
  refine lv_iadd hx hb dL_law_775 ?_
  refine va_sld hx hb hXs hbl hbA hS (hin 2 (by decide)) dL_law_776 ?_
  refine lv_aload_n hx hb dL_law_777 rfl (lv_at hl 0 rfl) ?_
  refine lv_iload hx hb dL_law_778 (lv_at hl 5 rfl) ?_
  refine lv_iconst (v := (3 : Int32)) hx hb dL_law_780 (by decide) ?_
  refine lv_iadd hx hb dL_law_781 ?_
  refine va_sld hx hb hXs hbl hbA hS (hin 3 (by decide)) dL_law_782 ?_
  refine lv_aload_n hx hb dL_law_783 rfl (lv_at hl 0 rfl) ?_
  refine lv_iload hx hb dL_law_784 (lv_at hl 5 rfl) ?_
  refine lv_iconst (v := (4 : Int32)) hx hb dL_law_786 (by decide) ?_
  refine lv_iadd hx hb dL_law_787 ?_
  refine va_sld hx hb hXs hbl hbA hS (hin 4 (by decide)) dL_law_788 ?_
  refine lv_aload_n hx hb dL_law_789 rfl (lv_at hl 3 rfl) ?_
  obtain ⟨cd, z1, σ1, bv, σ2, w1, w2, w3, w4, w5, w6⟩ := stp_why (z := z) (w := w) hR hN (xs (i + nI 1).toNatClampNeg) (xs (i + nI 2).toNatClampNeg) (xs (i + nI 3).toNatClampNeg) (xs (i + nI 4).toNatClampNeg)
  refine gq_W (n := 6) (As := [.ref (X.1 + 0), .int (xs (i + nI 1).toNatClampNeg), .int (xs (i + nI 2).toNatClampNeg), .int (xs (i + nI 3).toNatClampNeg), .int (xs (i + nI 4).toNatClampNeg), .ref (X.1 + 440)]) E hml hl.1 (cw_why l X hl0 (xs (i + nI 1).toNatClampNeg) (xs (i + nI 2).toNatClampNeg) (xs (i + nI 3).toNatClampNeg) (xs (i + nI 4).toNatClampNeg) z w σ w1) wlw_why_s wlw_ini wlw_why_c (by decide +kernel) wlL_168 rfl hM hO hS rfl rfl (Nat.le_trans (by decide) hRf) (Nat.le_trans (by decide) hRl) (Nat.le_trans (by omega) hRc) (Nat.le_trans (by omega) hRs) (Nat.le_of_ble_eq_true rfl) dL_law_790 rfl (fun H locs hM hO hS => ?_)
  refine lv_istore (lv' := [(6, .int (nI cd)), (0, .ref b), (1, .ref (X.1 + 0)), (2, .ref (X.1 + 433)), (3, .ref (X.1 + 440)), (4, .ref (X.1 + 441)), (5, .int i)]) hx hb dL_law_793 hl (by decide) rfl (fun ls hl => ?_)
  refine lv_aload_n hx hb dL_law_795 rfl (lv_at hl 3 rfl) ?_
  refine lv_aload_n hx hb dL_law_796 rfl (lv_at hl 1 rfl) ?_
  refine lv_iload hx hb dL_law_797 (lv_at hl 6 rfl) ?_
  refine lv_iconst (v := (1 : Int32)) hx hb dL_law_799 (by decide) ?_
  refine lv_iadd hx hb dL_law_800 ?_
  refine va_sld hx hb hXs hbl hbA hS (hin 1 (by decide)) dL_law_801 ?_
  refine lv_aload_n hx hb dL_law_802 rfl (lv_at hl 1 rfl) ?_
  refine lv_iload hx hb dL_law_803 (lv_at hl 6 rfl) ?_
  refine lv_iconst (v := (2 : Int32)) hx hb dL_law_805 (by decide) ?_
  refine lv_iadd hx hb dL_law_806 ?_
  refine va_sld hx hb hXs hbl hbA hS (hin 2 (by decide)) dL_law_807 ?_
  refine lv_aload_n hx hb dL_law_808 rfl (lv_at hl 1 rfl) ?_
  refine lv_iload hx hb dL_law_809 (lv_at hl 6 rfl) ?_
  refine lv_iconst (v := (3 : Int32)) hx hb dL_law_811 (by decide) ?_
  refine lv_iadd hx hb dL_law_812 ?_
  refine va_sld hx hb hXs hbl hbA hS (hin 3 (by decide)) dL_law_813 ?_
  refine lv_aload_n hx hb dL_law_814 rfl (lv_at hl 1 rfl) ?_
  refine lv_iload hx hb dL_law_815 (lv_at hl 6 rfl) ?_
  refine lv_iconst (v := (4 : Int32)) hx hb dL_law_817 (by decide) ?_
  refine lv_iadd hx hb dL_law_818 ?_
  refine va_sld hx hb hXs hbl hbA hS (hin 4 (by decide)) dL_law_819 ?_
  refine gb_i (gq_V (c0 := 433) (As := [.int (xs (i + nI 1).toNatClampNeg), .int (xs (i + nI 2).toNatClampNeg), .int (xs (i + nI 3).toNatClampNeg), .int (xs (i + nI 4).toNatClampNeg)]) (ci := 9) (rm := { frames := 4, cells := 0, slots := 0, locals := 97 }) E hml hl.1 (c_X9_why l X 433 (xs (i + nI 1).toNatClampNeg) (xs (i + nI 2).toNatClampNeg) (xs (i + nI 3).toNatClampNeg) (xs (i + nI 4).toNatClampNeg) σ1 rfl w2) wt_X9_why wl_RL_170 rfl rfl (by decide) rfl rfl hM hS rfl rfl (Nat.le_trans (by decide) hRf) (Nat.le_trans (by decide) hRl) (Nat.le_trans (by omega) hRc) (Nat.le_trans (by omega) hRs) (Nat.le_of_ble_eq_true rfl) dL_law_820 rfl) hO hS (fun H locs hM hO hS => ?_)
  refine lv_istore (lv' := [(7, .int bv), (6, .int (nI cd)), (0, .ref b), (1, .ref (X.1 + 0)), (2, .ref (X.1 + 433)), (3, .ref (X.1 + 440)), (4, .ref (X.1 + 441)), (5, .int i)]) hx hb dL_law_823 hl (by decide) rfl (fun ls hl => ?_)
  refine lv_aload_n hx hb dL_law_825 rfl (lv_at hl 4 rfl) ?_
  refine gb_i (gq_V (c0 := 433) (As := []) (ci := 9) (rm := { frames := 0, cells := 0, slots := 0, locals := 0 }) E hml hl.1 (c_X9_thrown l X 433 σ2 rfl (show f_X9_thrown 433 σ2 = some (nI cd, σ2) from congrArg (fun v => some (v, σ2)) w3)) wt_X9_thrown wl_RL_138 rfl rfl (by decide) rfl rfl hM hS rfl rfl (Nat.le_trans (by decide) hRf) (Nat.le_trans (by decide) hRl) (Nat.le_trans (by omega) hRc) (Nat.le_trans (by omega) hRs) (Nat.le_of_ble_eq_true rfl) dL_law_826 rfl) hO hS (fun H locs hM hO hS => ?_)
  refine lv_iload hx hb dL_law_829 (lv_at hl 1 rfl) ?_
  refine lv_icmp_eq (tgt := 836) hx hb dL_law_831 (by decide) (fun _ => ?_) (fun hne => absurd rfl hne)
  refine lv_iload hx hb dL_law_836 (lv_at hl 1 rfl) ?_
  have fin : W p l e R s m args below meth c H locs (cells + 3 + 0 + 0) (slots + 18 + 0 + 0) Q (F0 m 853 ls []) := by
    refine lv_goto (tgt := 2231) hx hb dL_law_853 (by decide) ?_
    exact kk H locs ls σ2 z1 w _ _ (by decide) (by decide) w4 hM hO hS ⟨hl.1, hl.2.1, fun q hq => hl.2.2 q (List.mem_cons_of_mem _ (List.mem_cons_of_mem _ hq))⟩
  refine lv_if_ne (tgt := 853) hx hb dL_law_838 (by decide) (fun _ => fin) (fun h0 => ?_)
  have hcd : cd = 0 := by
    have h1 : nI cd = nI 0 := h0
    rw [p_eq (by omega) (by decide)] at h1; exact h1
  have w7 := w6 hcd
  refine lv_aload_n hx hb dL_law_841 rfl (lv_at hl 5 rfl) ?_
  refine lv_iconst (v := (0 : Int32)) hx hb dL_law_842 (by decide) ?_
  refine gl_lld E hO dL_law_843 ?_
  refine lv_iload hx hb dL_law_844 (lv_at hl 0 rfl) ?_
  refine lv_i2l (v := bv.toInt64) hx hb dL_law_846 rfl ?_
  refine lr_lcmp hx hb dL_law_847 w7 ?_
  exact lv_if_eq (tgt := 853) hx hb dL_law_848 (by decide) (fun _ => fin) (fun hne => absurd rfl hne)
set_option maxRecDepth 100000 in
set_option maxHeartbeats 4000000 in
theorem cs_10 {p : Program} {l : Launch} {e : Env} {R : Room} {s : State} {m : MethodId} {args : Array Value} {below : List Frame} {meth : Method} {c : Code} {H : Heap} {locs : List Loc} {ls : Array Slot} {cells slots : Nat} {Q : State → Prop} {X : gX} {z : Nat → Int64} {w : Nat → UInt64} (E : gE2 p s m args c cL_law X) (hml : c.maxLocals = 9) (hl0 : l.stackTraces = false) (hRf : 16 ≤ R.frames) (hRl : 1000 ≤ R.locals) (hRc : cells + 8 ≤ R.cells) (hRs : slots + 48 ≤ R.slots) {b L : Nat} {xs : Nat → Int32} (hXs : va_X b L xs s s.heap) (hbl : b < s.heap.size) (hbA : ¬ gA2 X b) {i : Int32} (hin : ∀ k : Nat, k < 5 → vp_in (i + nI k) L) {N : Nat} {σ : gMem} (hR : RR N σ σ) (hN : N ≤ 900000) (hM : gM X σ H) (hO : gO X z w H) (hS : va_S (gA2 X) s.heap H locs) (hl : lv_has ls 9 [(0, .ref b), (1, .ref (X.1 + 0)), (2, .ref (X.1 + 433)), (3, .ref (X.1 + 440)), (4, .ref (X.1 + 441)), (5, .int i)]) (kk : ∀ (H : Heap) (locs : List Loc) (ls : Array Slot) (σ : gMem) (z : Nat → Int64) (w : Nat → UInt64) (c1 s1 : Nat), c1 ≤ 8 → s1 ≤ 48 → RR (N + 1440) σ σ → gM X σ H → gO X z w H → va_S (gA2 X) s.heap H locs → lv_has ls 9 [(0, .ref b), (1, .ref (X.1 + 0)), (2, .ref (X.1 + 433)), (3, .ref (X.1 + 440)), (4, .ref (X.1 + 441)), (5, .int i)] → W p l e R s m args below meth c H locs (cells + c1) (slots + s1) Q (F0 m 2231 ls [])) : W p l e R s m args below meth c H locs cells slots Q (F0 m 856 ls []) := by
  obtain ⟨hx, hb⟩ := (⟨E.1.1, E.1.2.1⟩ : _ ∧ _)
  refine lv_aload_n hx hb dL_law_856 rfl (lv_at hl 1 rfl) ?_
  refine lv_aload_n hx hb dL_law_857 rfl (lv_at hl 0 rfl) ?_
  refine lv_iload hx hb dL_law_858 (lv_at hl 5 rfl) ?_
  refine lv_iconst (v := (1 : Int32)) hx hb dL_law_860 (by decide) ?_
  refine lv_iadd hx hb dL_law_861 ?_
  refine va_sld hx hb hXs hbl hbA hS (hin 1 (by decide)) dL_law_862 ?_
  refine lv_aload_n hx hb dL_law_863 rfl (lv_at hl 3 rfl) ?_
  obtain ⟨cd, z1, σ1, bv, σ2, w1, w2, w3, w4, w5, w6⟩ := stp_take (z := z) (w := w) hR hN (xs (i + nI 1).toNatClampNeg)
  refine gq_W (n := 3) (As := [.ref (X.1 + 0), .int (xs (i + nI 1).toNatClampNeg), .ref (X.1 + 440)]) E hml hl.1 (cw_take l X hl0 (xs (i + nI 1).toNatClampNeg) z w σ w1) wlw_take_s wlw_ini wlw_take_c (by decide +kernel) wlL_171 rfl hM hO hS rfl rfl (Nat.le_trans (by decide) hRf) (Nat.le_trans (by decide) hRl) (Nat.le_trans (by omega) hRc) (Nat.le_trans (by omega) hRs) (Nat.le_of_ble_eq_true rfl) dL_law_864 rfl (fun H locs hM hO hS => ?_)
  refine lv_istore (lv' := [(6, .int (nI cd)), (0, .ref b), (1, .ref (X.1 + 0)), (2, .ref (X.1 + 433)), (3, .ref (X.1 + 440)), (4, .ref (X.1 + 441)), (5, .int i)]) hx hb dL_law_867 hl (by decide) rfl (fun ls hl => ?_)
  refine lv_aload_n hx hb dL_law_869 rfl (lv_at hl 3 rfl) ?_
  refine lv_aload_n hx hb dL_law_870 rfl (lv_at hl 1 rfl) ?_
  refine lv_iload hx hb dL_law_871 (lv_at hl 6 rfl) ?_
  refine lv_iconst (v := (1 : Int32)) hx hb dL_law_873 (by decide) ?_
  refine lv_iadd hx hb dL_law_874 ?_
  refine va_sld hx hb hXs hbl hbA hS (hin 1 (by decide)) dL_law_875 ?_
  refine gb_i (gq_V (c0 := 433) (As := [.int (xs (i + nI 1).toNatClampNeg)]) (ci := 9) (rm := { frames := 3, cells := 0, slots := 0, locals := 67 }) E hml hl.1 (c_X9_take l X 433 (xs (i + nI 1).toNatClampNeg) σ1 rfl w2) wt_X9_take wl_RL_173 rfl rfl (by decide) rfl rfl hM hS rfl rfl (Nat.le_trans (by decide) hRf) (Nat.le_trans (by decide) hRl) (Nat.le_trans (by omega) hRc) (Nat.le_trans (by omega) hRs) (Nat.le_of_ble_eq_true rfl) dL_law_876 rfl) hO hS (fun H locs hM hO hS => ?_)
  refine lv_istore (lv' := [(7, .int bv), (6, .int (nI cd)), (0, .ref b), (1, .ref (X.1 + 0)), (2, .ref (X.1 + 433)), (3, .ref (X.1 + 440)), (4, .ref (X.1 + 441)), (5, .int i)]) hx hb dL_law_879 hl (by decide) rfl (fun ls hl => ?_)
  refine lv_aload_n hx hb dL_law_881 rfl (lv_at hl 4 rfl) ?_
  refine gb_i (gq_V (c0 := 433) (As := []) (ci := 9) (rm := { frames := 0, cells := 0, slots := 0, locals := 0 }) E hml hl.1 (c_X9_thrown l X 433 σ2 rfl (show f_X9_thrown 433 σ2 = some (nI cd, σ2) from congrArg (fun v => some (v, σ2)) w3)) wt_X9_thrown wl_RL_138 rfl rfl (by decide) rfl rfl hM hS rfl rfl (Nat.le_trans (by decide) hRf) (Nat.le_trans (by decide) hRl) (Nat.le_trans (by omega) hRc) (Nat.le_trans (by omega) hRs) (Nat.le_of_ble_eq_true rfl) dL_law_882 rfl) hO hS (fun H locs hM hO hS => ?_)
  refine lv_iload hx hb dL_law_885 (lv_at hl 1 rfl) ?_
  refine lv_icmp_eq (tgt := 892) hx hb dL_law_887 (by decide) (fun _ => ?_) (fun hne => absurd rfl hne)
  refine lv_iload hx hb dL_law_892 (lv_at hl 1 rfl) ?_
  have fin : W p l e R s m args below meth c H locs (cells + 2 + 0 + 0) (slots + 12 + 0 + 0) Q (F0 m 909 ls []) := by
    refine lv_goto (tgt := 2231) hx hb dL_law_909 (by decide) ?_
    exact kk H locs ls σ2 z1 w _ _ (by decide) (by decide) w4 hM hO hS ⟨hl.1, hl.2.1, fun q hq => hl.2.2 q (List.mem_cons_of_mem _ (List.mem_cons_of_mem _ hq))⟩
  refine lv_if_ne (tgt := 909) hx hb dL_law_894 (by decide) (fun _ => fin) (fun h0 => ?_)
  have hcd : cd = 0 := by
    have h1 : nI cd = nI 0 := h0
    rw [p_eq (by omega) (by decide)] at h1; exact h1
  have w7 := w6 hcd
  refine lv_aload_n hx hb dL_law_897 rfl (lv_at hl 5 rfl) ?_
  refine lv_iconst (v := (0 : Int32)) hx hb dL_law_898 (by decide) ?_
  refine gl_lld E hO dL_law_899 ?_
  refine lv_iload hx hb dL_law_900 (lv_at hl 0 rfl) ?_
  refine lv_i2l (v := bv.toInt64) hx hb dL_law_902 rfl ?_
  refine lr_lcmp hx hb dL_law_903 w7 ?_
  exact lv_if_eq (tgt := 909) hx hb dL_law_904 (by decide) (fun _ => fin) (fun hne => absurd rfl hne)
set_option maxRecDepth 100000 in
set_option maxHeartbeats 4000000 in
theorem cs_11 {p : Program} {l : Launch} {e : Env} {R : Room} {s : State} {m : MethodId} {args : Array Value} {below : List Frame} {meth : Method} {c : Code} {H : Heap} {locs : List Loc} {ls : Array Slot} {cells slots : Nat} {Q : State → Prop} {X : gX} {z : Nat → Int64} {w : Nat → UInt64} (E : gE2 p s m args c cL_law X) (hml : c.maxLocals = 9) (hl0 : l.stackTraces = false) (hRf : 16 ≤ R.frames) (hRl : 1000 ≤ R.locals) (hRc : cells + 8 ≤ R.cells) (hRs : slots + 48 ≤ R.slots) {b L : Nat} {xs : Nat → Int32} (hXs : va_X b L xs s s.heap) (hbl : b < s.heap.size) (hbA : ¬ gA2 X b) {i : Int32} (hin : ∀ k : Nat, k < 5 → vp_in (i + nI k) L) {N : Nat} {σ : gMem} (hR : RR N σ σ) (hN : N ≤ 900000) (hM : gM X σ H) (hO : gO X z w H) (hS : va_S (gA2 X) s.heap H locs) (hl : lv_has ls 9 [(0, .ref b), (1, .ref (X.1 + 0)), (2, .ref (X.1 + 433)), (3, .ref (X.1 + 440)), (4, .ref (X.1 + 441)), (5, .int i)]) (kk : ∀ (H : Heap) (locs : List Loc) (ls : Array Slot) (σ : gMem) (z : Nat → Int64) (w : Nat → UInt64) (c1 s1 : Nat), c1 ≤ 8 → s1 ≤ 48 → RR (N + 1440) σ σ → gM X σ H → gO X z w H → va_S (gA2 X) s.heap H locs → lv_has ls 9 [(0, .ref b), (1, .ref (X.1 + 0)), (2, .ref (X.1 + 433)), (3, .ref (X.1 + 440)), (4, .ref (X.1 + 441)), (5, .int i)] → W p l e R s m args below meth c H locs (cells + c1) (slots + s1) Q (F0 m 2231 ls [])) : W p l e R s m args below meth c H locs cells slots Q (F0 m 912 ls []) := by
  obtain ⟨hx, hb⟩ := (⟨E.1.1, E.1.2.1⟩ : _ ∧ _)
  refine lv_aload_n hx hb dL_law_912 rfl (lv_at hl 1 rfl) ?_
  refine lv_aload_n hx hb dL_law_913 rfl (lv_at hl 0 rfl) ?_
  refine lv_iload hx hb dL_law_914 (lv_at hl 5 rfl) ?_
  refine lv_iconst (v := (1 : Int32)) hx hb dL_law_916 (by decide) ?_
  refine lv_iadd hx hb dL_law_917 ?_
  refine va_sld hx hb hXs hbl hbA hS (hin 1 (by decide)) dL_law_918 ?_
  refine lv_aload_n hx hb dL_law_919 rfl (lv_at hl 0 rfl) ?_
  refine lv_iload hx hb dL_law_920 (lv_at hl 5 rfl) ?_
  refine lv_iconst (v := (2 : Int32)) hx hb dL_law_922 (by decide) ?_
  refine lv_iadd hx hb dL_law_923 ?_
  refine va_sld hx hb hXs hbl hbA hS (hin 2 (by decide)) dL_law_924 ?_
  refine lv_aload_n hx hb dL_law_925 rfl (lv_at hl 0 rfl) ?_
  refine lv_iload hx hb dL_law_926 (lv_at hl 5 rfl) ?_
  refine lv_iconst (v := (3 : Int32)) hx hb dL_law_928 (by decide) ?_
  refine lv_iadd hx hb dL_law_929 ?_
  refine va_sld hx hb hXs hbl hbA hS (hin 3 (by decide)) dL_law_930 ?_
  refine lv_aload_n hx hb dL_law_931 rfl (lv_at hl 3 rfl) ?_
  obtain ⟨cd, z1, σ1, bv, σ2, w1, w2, w3, w4, w5, w6⟩ := stp_courseOf (z := z) (w := w) hR hN (xs (i + nI 1).toNatClampNeg) (xs (i + nI 2).toNatClampNeg) (xs (i + nI 3).toNatClampNeg)
  refine gq_W (n := 5) (As := [.ref (X.1 + 0), .int (xs (i + nI 1).toNatClampNeg), .int (xs (i + nI 2).toNatClampNeg), .int (xs (i + nI 3).toNatClampNeg), .ref (X.1 + 440)]) E hml hl.1 (cw_courseOf l X hl0 (xs (i + nI 1).toNatClampNeg) (xs (i + nI 2).toNatClampNeg) (xs (i + nI 3).toNatClampNeg) z w σ w1) wlw_courseOf_s wlw_ini wlw_courseOf_c (by decide +kernel) wlL_174 rfl hM hO hS rfl rfl (Nat.le_trans (by decide) hRf) (Nat.le_trans (by decide) hRl) (Nat.le_trans (by omega) hRc) (Nat.le_trans (by omega) hRs) (Nat.le_of_ble_eq_true rfl) dL_law_932 rfl (fun H locs hM hO hS => ?_)
  refine lv_istore (lv' := [(6, .int (nI cd)), (0, .ref b), (1, .ref (X.1 + 0)), (2, .ref (X.1 + 433)), (3, .ref (X.1 + 440)), (4, .ref (X.1 + 441)), (5, .int i)]) hx hb dL_law_935 hl (by decide) rfl (fun ls hl => ?_)
  refine lv_aload_n hx hb dL_law_937 rfl (lv_at hl 3 rfl) ?_
  refine lv_aload_n hx hb dL_law_938 rfl (lv_at hl 1 rfl) ?_
  refine lv_iload hx hb dL_law_939 (lv_at hl 6 rfl) ?_
  refine lv_iconst (v := (1 : Int32)) hx hb dL_law_941 (by decide) ?_
  refine lv_iadd hx hb dL_law_942 ?_
  refine va_sld hx hb hXs hbl hbA hS (hin 1 (by decide)) dL_law_943 ?_
  refine lv_aload_n hx hb dL_law_944 rfl (lv_at hl 1 rfl) ?_
  refine lv_iload hx hb dL_law_945 (lv_at hl 6 rfl) ?_
  refine lv_iconst (v := (2 : Int32)) hx hb dL_law_947 (by decide) ?_
  refine lv_iadd hx hb dL_law_948 ?_
  refine va_sld hx hb hXs hbl hbA hS (hin 2 (by decide)) dL_law_949 ?_
  refine lv_aload_n hx hb dL_law_950 rfl (lv_at hl 1 rfl) ?_
  refine lv_iload hx hb dL_law_951 (lv_at hl 6 rfl) ?_
  refine lv_iconst (v := (3 : Int32)) hx hb dL_law_953 (by decide) ?_
  refine lv_iadd hx hb dL_law_954 ?_
  refine va_sld hx hb hXs hbl hbA hS (hin 3 (by decide)) dL_law_955 ?_
  refine gb_i (gq_V (c0 := 433) (As := [.int (xs (i + nI 1).toNatClampNeg), .int (xs (i + nI 2).toNatClampNeg), .int (xs (i + nI 3).toNatClampNeg)]) (ci := 9) (rm := { frames := 3, cells := 0, slots := 0, locals := 65 }) E hml hl.1 (c_X9_courseOf l X 433 (xs (i + nI 1).toNatClampNeg) (xs (i + nI 2).toNatClampNeg) (xs (i + nI 3).toNatClampNeg) σ1 rfl w2) wt_X9_courseOf wl_RL_177 rfl rfl (by decide) rfl rfl hM hS rfl rfl (Nat.le_trans (by decide) hRf) (Nat.le_trans (by decide) hRl) (Nat.le_trans (by omega) hRc) (Nat.le_trans (by omega) hRs) (Nat.le_of_ble_eq_true rfl) dL_law_956 rfl) hO hS (fun H locs hM hO hS => ?_)
  refine lv_istore (lv' := [(7, .int bv), (6, .int (nI cd)), (0, .ref b), (1, .ref (X.1 + 0)), (2, .ref (X.1 + 433)), (3, .ref (X.1 + 440)), (4, .ref (X.1 + 441)), (5, .int i)]) hx hb dL_law_959 hl (by decide) rfl (fun ls hl => ?_)
  refine lv_aload_n hx hb dL_law_961 rfl (lv_at hl 4 rfl) ?_
  refine gb_i (gq_V (c0 := 433) (As := []) (ci := 9) (rm := { frames := 0, cells := 0, slots := 0, locals := 0 }) E hml hl.1 (c_X9_thrown l X 433 σ2 rfl (show f_X9_thrown 433 σ2 = some (nI cd, σ2) from congrArg (fun v => some (v, σ2)) w3)) wt_X9_thrown wl_RL_138 rfl rfl (by decide) rfl rfl hM hS rfl rfl (Nat.le_trans (by decide) hRf) (Nat.le_trans (by decide) hRl) (Nat.le_trans (by omega) hRc) (Nat.le_trans (by omega) hRs) (Nat.le_of_ble_eq_true rfl) dL_law_962 rfl) hO hS (fun H locs hM hO hS => ?_)
  refine lv_iload hx hb dL_law_965 (lv_at hl 1 rfl) ?_
  refine lv_icmp_eq (tgt := 972) hx hb dL_law_967 (by decide) (fun _ => ?_) (fun hne => absurd rfl hne)
  refine lv_iload hx hb dL_law_972 (lv_at hl 1 rfl) ?_
  have fin : W p l e R s m args below meth c H locs (cells + 3 + 0 + 0) (slots + 18 + 0 + 0) Q (F0 m 989 ls []) := by
    refine lv_goto (tgt := 2231) hx hb dL_law_989 (by decide) ?_
    exact kk H locs ls σ2 z1 w _ _ (by decide) (by decide) w4 hM hO hS ⟨hl.1, hl.2.1, fun q hq => hl.2.2 q (List.mem_cons_of_mem _ (List.mem_cons_of_mem _ hq))⟩
  refine lv_if_ne (tgt := 989) hx hb dL_law_974 (by decide) (fun _ => fin) (fun h0 => ?_)
  have hcd : cd = 0 := by
    have h1 : nI cd = nI 0 := h0
    rw [p_eq (by omega) (by decide)] at h1; exact h1
  have w7 := w6 hcd
  refine lv_aload_n hx hb dL_law_977 rfl (lv_at hl 5 rfl) ?_
  refine lv_iconst (v := (0 : Int32)) hx hb dL_law_978 (by decide) ?_
  refine gl_lld E hO dL_law_979 ?_
  refine lv_iload hx hb dL_law_980 (lv_at hl 0 rfl) ?_
  refine lv_i2l (v := bv.toInt64) hx hb dL_law_982 rfl ?_
  refine lr_lcmp hx hb dL_law_983 w7 ?_
  exact lv_if_eq (tgt := 989) hx hb dL_law_984 (by decide) (fun _ => fin) (fun hne => absurd rfl hne)
set_option maxRecDepth 100000 in
set_option maxHeartbeats 4000000 in
theorem cs_12 {p : Program} {l : Launch} {e : Env} {R : Room} {s : State} {m : MethodId} {args : Array Value} {below : List Frame} {meth : Method} {c : Code} {H : Heap} {locs : List Loc} {ls : Array Slot} {cells slots : Nat} {Q : State → Prop} {X : gX} {z : Nat → Int64} {w : Nat → UInt64} (E : gE2 p s m args c cL_law X) (hml : c.maxLocals = 9) (hl0 : l.stackTraces = false) (hRf : 16 ≤ R.frames) (hRl : 1000 ≤ R.locals) (hRc : cells + 8 ≤ R.cells) (hRs : slots + 48 ≤ R.slots) {b L : Nat} {xs : Nat → Int32} (hXs : va_X b L xs s s.heap) (hbl : b < s.heap.size) (hbA : ¬ gA2 X b) {i : Int32} (hin : ∀ k : Nat, k < 5 → vp_in (i + nI k) L) {N : Nat} {σ : gMem} (hR : RR N σ σ) (hN : N ≤ 900000) (hM : gM X σ H) (hO : gO X z w H) (hS : va_S (gA2 X) s.heap H locs) (hl : lv_has ls 9 [(0, .ref b), (1, .ref (X.1 + 0)), (2, .ref (X.1 + 433)), (3, .ref (X.1 + 440)), (4, .ref (X.1 + 441)), (5, .int i)]) (kk : ∀ (H : Heap) (locs : List Loc) (ls : Array Slot) (σ : gMem) (z : Nat → Int64) (w : Nat → UInt64) (c1 s1 : Nat), c1 ≤ 8 → s1 ≤ 48 → RR (N + 1440) σ σ → gM X σ H → gO X z w H → va_S (gA2 X) s.heap H locs → lv_has ls 9 [(0, .ref b), (1, .ref (X.1 + 0)), (2, .ref (X.1 + 433)), (3, .ref (X.1 + 440)), (4, .ref (X.1 + 441)), (5, .int i)] → W p l e R s m args below meth c H locs (cells + c1) (slots + s1) Q (F0 m 2231 ls [])) : W p l e R s m args below meth c H locs cells slots Q (F0 m 992 ls []) := by
  obtain ⟨hx, hb⟩ := (⟨E.1.1, E.1.2.1⟩ : _ ∧ _)
  refine lv_aload_n hx hb dL_law_992 rfl (lv_at hl 1 rfl) ?_
  refine lv_aload_n hx hb dL_law_993 rfl (lv_at hl 0 rfl) ?_
  refine lv_iload hx hb dL_law_994 (lv_at hl 5 rfl) ?_
  refine lv_iconst (v := (1 : Int32)) hx hb dL_law_996 (by decide) ?_
  refine lv_iadd hx hb dL_law_997 ?_
  refine va_sld hx hb hXs hbl hbA hS (hin 1 (by decide)) dL_law_998 ?_
  refine lv_aload_n hx hb dL_law_999 rfl (lv_at hl 0 rfl) ?_
  refine lv_iload hx hb dL_law_1000 (lv_at hl 5 rfl) ?_
  refine lv_iconst (v := (2 : Int32)) hx hb dL_law_1002 (by decide) ?_
  refine lv_iadd hx hb dL_law_1003 ?_
  refine va_sld hx hb hXs hbl hbA hS (hin 2 (by decide)) dL_law_1004 ?_
  refine lv_aload_n hx hb dL_law_1005 rfl (lv_at hl 3 rfl) ?_
  obtain ⟨cd, z1, σ1, bv, σ2, w1, w2, w3, w4, w5, w6⟩ := stp_bearsAgain (z := z) (w := w) hR hN (xs (i + nI 1).toNatClampNeg) (xs (i + nI 2).toNatClampNeg)
  refine gq_W (n := 4) (As := [.ref (X.1 + 0), .int (xs (i + nI 1).toNatClampNeg), .int (xs (i + nI 2).toNatClampNeg), .ref (X.1 + 440)]) E hml hl.1 (cw_bearsAgain l X hl0 (xs (i + nI 1).toNatClampNeg) (xs (i + nI 2).toNatClampNeg) z w σ w1) wlw_bearsAgain_s wlw_ini wlw_bearsAgain_c (by decide +kernel) wlL_178 rfl hM hO hS rfl rfl (Nat.le_trans (by decide) hRf) (Nat.le_trans (by decide) hRl) (Nat.le_trans (by omega) hRc) (Nat.le_trans (by omega) hRs) (Nat.le_of_ble_eq_true rfl) dL_law_1006 rfl (fun H locs hM hO hS => ?_)
  refine lv_istore (lv' := [(6, .int (nI cd)), (0, .ref b), (1, .ref (X.1 + 0)), (2, .ref (X.1 + 433)), (3, .ref (X.1 + 440)), (4, .ref (X.1 + 441)), (5, .int i)]) hx hb dL_law_1009 hl (by decide) rfl (fun ls hl => ?_)
  refine lv_aload_n hx hb dL_law_1011 rfl (lv_at hl 3 rfl) ?_
  refine lv_aload_n hx hb dL_law_1012 rfl (lv_at hl 1 rfl) ?_
  refine lv_iload hx hb dL_law_1013 (lv_at hl 6 rfl) ?_
  refine lv_iconst (v := (1 : Int32)) hx hb dL_law_1015 (by decide) ?_
  refine lv_iadd hx hb dL_law_1016 ?_
  refine va_sld hx hb hXs hbl hbA hS (hin 1 (by decide)) dL_law_1017 ?_
  refine lv_aload_n hx hb dL_law_1018 rfl (lv_at hl 1 rfl) ?_
  refine lv_iload hx hb dL_law_1019 (lv_at hl 6 rfl) ?_
  refine lv_iconst (v := (2 : Int32)) hx hb dL_law_1021 (by decide) ?_
  refine lv_iadd hx hb dL_law_1022 ?_
  refine va_sld hx hb hXs hbl hbA hS (hin 2 (by decide)) dL_law_1023 ?_
  refine gb_i (gq_V (c0 := 433) (As := [.int (xs (i + nI 1).toNatClampNeg), .int (xs (i + nI 2).toNatClampNeg)]) (ci := 9) (rm := { frames := 3, cells := 0, slots := 0, locals := 65 }) E hml hl.1 (c_X9_bearsAgain l X 433 (xs (i + nI 1).toNatClampNeg) (xs (i + nI 2).toNatClampNeg) σ1 rfl w2) wt_X9_bearsAgain wl_RL_180 rfl rfl (by decide) rfl rfl hM hS rfl rfl (Nat.le_trans (by decide) hRf) (Nat.le_trans (by decide) hRl) (Nat.le_trans (by omega) hRc) (Nat.le_trans (by omega) hRs) (Nat.le_of_ble_eq_true rfl) dL_law_1024 rfl) hO hS (fun H locs hM hO hS => ?_)
  refine lv_istore (lv' := [(7, .int bv), (6, .int (nI cd)), (0, .ref b), (1, .ref (X.1 + 0)), (2, .ref (X.1 + 433)), (3, .ref (X.1 + 440)), (4, .ref (X.1 + 441)), (5, .int i)]) hx hb dL_law_1027 hl (by decide) rfl (fun ls hl => ?_)
  refine lv_aload_n hx hb dL_law_1029 rfl (lv_at hl 4 rfl) ?_
  refine gb_i (gq_V (c0 := 433) (As := []) (ci := 9) (rm := { frames := 0, cells := 0, slots := 0, locals := 0 }) E hml hl.1 (c_X9_thrown l X 433 σ2 rfl (show f_X9_thrown 433 σ2 = some (nI cd, σ2) from congrArg (fun v => some (v, σ2)) w3)) wt_X9_thrown wl_RL_138 rfl rfl (by decide) rfl rfl hM hS rfl rfl (Nat.le_trans (by decide) hRf) (Nat.le_trans (by decide) hRl) (Nat.le_trans (by omega) hRc) (Nat.le_trans (by omega) hRs) (Nat.le_of_ble_eq_true rfl) dL_law_1030 rfl) hO hS (fun H locs hM hO hS => ?_)
  refine lv_iload hx hb dL_law_1033 (lv_at hl 1 rfl) ?_
  refine lv_icmp_eq (tgt := 1040) hx hb dL_law_1035 (by decide) (fun _ => ?_) (fun hne => absurd rfl hne)
  refine lv_iload hx hb dL_law_1040 (lv_at hl 1 rfl) ?_
  have fin : W p l e R s m args below meth c H locs (cells + 2 + 0 + 0) (slots + 12 + 0 + 0) Q (F0 m 1057 ls []) := by
    refine lv_goto (tgt := 2231) hx hb dL_law_1057 (by decide) ?_
    exact kk H locs ls σ2 z1 w _ _ (by decide) (by decide) w4 hM hO hS ⟨hl.1, hl.2.1, fun q hq => hl.2.2 q (List.mem_cons_of_mem _ (List.mem_cons_of_mem _ hq))⟩
  refine lv_if_ne (tgt := 1057) hx hb dL_law_1042 (by decide) (fun _ => fin) (fun h0 => ?_)
  have hcd : cd = 0 := by
    have h1 : nI cd = nI 0 := h0
    rw [p_eq (by omega) (by decide)] at h1; exact h1
  have w7 := w6 hcd
  refine lv_aload_n hx hb dL_law_1045 rfl (lv_at hl 5 rfl) ?_
  refine lv_iconst (v := (0 : Int32)) hx hb dL_law_1046 (by decide) ?_
  refine gl_lld E hO dL_law_1047 ?_
  refine lv_iload hx hb dL_law_1048 (lv_at hl 0 rfl) ?_
  refine lv_i2l (v := bv.toInt64) hx hb dL_law_1050 rfl ?_
  refine lr_lcmp hx hb dL_law_1051 w7 ?_
  exact lv_if_eq (tgt := 1057) hx hb dL_law_1052 (by decide) (fun _ => fin) (fun hne => absurd rfl hne)
set_option maxRecDepth 100000 in
set_option maxHeartbeats 4000000 in
theorem cs_13 {p : Program} {l : Launch} {e : Env} {R : Room} {s : State} {m : MethodId} {args : Array Value} {below : List Frame} {meth : Method} {c : Code} {H : Heap} {locs : List Loc} {ls : Array Slot} {cells slots : Nat} {Q : State → Prop} {X : gX} {z : Nat → Int64} {w : Nat → UInt64} (E : gE2 p s m args c cL_law X) (hml : c.maxLocals = 9) (hl0 : l.stackTraces = false) (hRf : 16 ≤ R.frames) (hRl : 1000 ≤ R.locals) (hRc : cells + 8 ≤ R.cells) (hRs : slots + 48 ≤ R.slots) {b L : Nat} {xs : Nat → Int32} (hXs : va_X b L xs s s.heap) (hbl : b < s.heap.size) (hbA : ¬ gA2 X b) {i : Int32} (hin : ∀ k : Nat, k < 5 → vp_in (i + nI k) L) {N : Nat} {σ : gMem} (hR : RR N σ σ) (hN : N ≤ 900000) (hM : gM X σ H) (hO : gO X z w H) (hS : va_S (gA2 X) s.heap H locs) (hl : lv_has ls 9 [(0, .ref b), (1, .ref (X.1 + 0)), (2, .ref (X.1 + 433)), (3, .ref (X.1 + 440)), (4, .ref (X.1 + 441)), (5, .int i)]) (kk : ∀ (H : Heap) (locs : List Loc) (ls : Array Slot) (σ : gMem) (z : Nat → Int64) (w : Nat → UInt64) (c1 s1 : Nat), c1 ≤ 8 → s1 ≤ 48 → RR (N + 1440) σ σ → gM X σ H → gO X z w H → va_S (gA2 X) s.heap H locs → lv_has ls 9 [(0, .ref b), (1, .ref (X.1 + 0)), (2, .ref (X.1 + 433)), (3, .ref (X.1 + 440)), (4, .ref (X.1 + 441)), (5, .int i)] → W p l e R s m args below meth c H locs (cells + c1) (slots + s1) Q (F0 m 2231 ls [])) : W p l e R s m args below meth c H locs cells slots Q (F0 m 1060 ls []) := by
  obtain ⟨hx, hb⟩ := (⟨E.1.1, E.1.2.1⟩ : _ ∧ _)
  refine lv_aload_n hx hb dL_law_1060 rfl (lv_at hl 1 rfl) ?_
  refine lv_aload_n hx hb dL_law_1061 rfl (lv_at hl 0 rfl) ?_
  refine lv_iload hx hb dL_law_1062 (lv_at hl 5 rfl) ?_
  refine lv_iconst (v := (1 : Int32)) hx hb dL_law_1064 (by decide) ?_
  refine lv_iadd hx hb dL_law_1065 ?_
  refine va_sld hx hb hXs hbl hbA hS (hin 1 (by decide)) dL_law_1066 ?_
  refine lv_aload_n hx hb dL_law_1067 rfl (lv_at hl 0 rfl) ?_
  refine lv_iload hx hb dL_law_1068 (lv_at hl 5 rfl) ?_
  refine lv_iconst (v := (2 : Int32)) hx hb dL_law_1070 (by decide) ?_
  refine lv_iadd hx hb dL_law_1071 ?_
  refine va_sld hx hb hXs hbl hbA hS (hin 2 (by decide)) dL_law_1072 ?_
  refine lv_aload_n hx hb dL_law_1073 rfl (lv_at hl 3 rfl) ?_
  obtain ⟨cd, z1, σ1, bv, σ2, w1, w2, w3, w4, w5, w6⟩ := stp_towerOf (z := z) (w := w) hR hN (xs (i + nI 1).toNatClampNeg) (xs (i + nI 2).toNatClampNeg)
  refine gq_W (n := 4) (As := [.ref (X.1 + 0), .int (xs (i + nI 1).toNatClampNeg), .int (xs (i + nI 2).toNatClampNeg), .ref (X.1 + 440)]) E hml hl.1 (cw_towerOf l X hl0 (xs (i + nI 1).toNatClampNeg) (xs (i + nI 2).toNatClampNeg) z w σ w1) wlw_towerOf_s wlw_ini wlw_towerOf_c (by decide +kernel) wlL_181 rfl hM hO hS rfl rfl (Nat.le_trans (by decide) hRf) (Nat.le_trans (by decide) hRl) (Nat.le_trans (by omega) hRc) (Nat.le_trans (by omega) hRs) (Nat.le_of_ble_eq_true rfl) dL_law_1074 rfl (fun H locs hM hO hS => ?_)
  refine lv_istore (lv' := [(6, .int (nI cd)), (0, .ref b), (1, .ref (X.1 + 0)), (2, .ref (X.1 + 433)), (3, .ref (X.1 + 440)), (4, .ref (X.1 + 441)), (5, .int i)]) hx hb dL_law_1077 hl (by decide) rfl (fun ls hl => ?_)
  refine lv_aload_n hx hb dL_law_1079 rfl (lv_at hl 3 rfl) ?_
  refine lv_aload_n hx hb dL_law_1080 rfl (lv_at hl 1 rfl) ?_
  refine lv_iload hx hb dL_law_1081 (lv_at hl 6 rfl) ?_
  refine lv_iconst (v := (1 : Int32)) hx hb dL_law_1083 (by decide) ?_
  refine lv_iadd hx hb dL_law_1084 ?_
  refine va_sld hx hb hXs hbl hbA hS (hin 1 (by decide)) dL_law_1085 ?_
  refine lv_aload_n hx hb dL_law_1086 rfl (lv_at hl 1 rfl) ?_
  refine lv_iload hx hb dL_law_1087 (lv_at hl 6 rfl) ?_
  refine lv_iconst (v := (2 : Int32)) hx hb dL_law_1089 (by decide) ?_
  refine lv_iadd hx hb dL_law_1090 ?_
  refine va_sld hx hb hXs hbl hbA hS (hin 2 (by decide)) dL_law_1091 ?_
  refine gb_i (gq_V (c0 := 433) (As := [.int (xs (i + nI 1).toNatClampNeg), .int (xs (i + nI 2).toNatClampNeg)]) (ci := 9) (rm := { frames := 2, cells := 0, slots := 0, locals := 45 }) E hml hl.1 (c_X9_towerOf l X 433 (xs (i + nI 1).toNatClampNeg) (xs (i + nI 2).toNatClampNeg) σ1 rfl w2) wt_X9_towerOf wl_RL_183 rfl rfl (by decide) rfl rfl hM hS rfl rfl (Nat.le_trans (by decide) hRf) (Nat.le_trans (by decide) hRl) (Nat.le_trans (by omega) hRc) (Nat.le_trans (by omega) hRs) (Nat.le_of_ble_eq_true rfl) dL_law_1092 rfl) hO hS (fun H locs hM hO hS => ?_)
  refine lv_istore (lv' := [(7, .int bv), (6, .int (nI cd)), (0, .ref b), (1, .ref (X.1 + 0)), (2, .ref (X.1 + 433)), (3, .ref (X.1 + 440)), (4, .ref (X.1 + 441)), (5, .int i)]) hx hb dL_law_1095 hl (by decide) rfl (fun ls hl => ?_)
  refine lv_aload_n hx hb dL_law_1097 rfl (lv_at hl 4 rfl) ?_
  refine gb_i (gq_V (c0 := 433) (As := []) (ci := 9) (rm := { frames := 0, cells := 0, slots := 0, locals := 0 }) E hml hl.1 (c_X9_thrown l X 433 σ2 rfl (show f_X9_thrown 433 σ2 = some (nI cd, σ2) from congrArg (fun v => some (v, σ2)) w3)) wt_X9_thrown wl_RL_138 rfl rfl (by decide) rfl rfl hM hS rfl rfl (Nat.le_trans (by decide) hRf) (Nat.le_trans (by decide) hRl) (Nat.le_trans (by omega) hRc) (Nat.le_trans (by omega) hRs) (Nat.le_of_ble_eq_true rfl) dL_law_1098 rfl) hO hS (fun H locs hM hO hS => ?_)
  refine lv_iload hx hb dL_law_1101 (lv_at hl 1 rfl) ?_
  refine lv_icmp_eq (tgt := 1108) hx hb dL_law_1103 (by decide) (fun _ => ?_) (fun hne => absurd rfl hne)
  refine lv_iload hx hb dL_law_1108 (lv_at hl 1 rfl) ?_
  have fin : W p l e R s m args below meth c H locs (cells + 2 + 0 + 0) (slots + 12 + 0 + 0) Q (F0 m 1125 ls []) := by
    refine lv_goto (tgt := 2231) hx hb dL_law_1125 (by decide) ?_
    exact kk H locs ls σ2 z1 w _ _ (by decide) (by decide) w4 hM hO hS ⟨hl.1, hl.2.1, fun q hq => hl.2.2 q (List.mem_cons_of_mem _ (List.mem_cons_of_mem _ hq))⟩
  refine lv_if_ne (tgt := 1125) hx hb dL_law_1110 (by decide) (fun _ => fin) (fun h0 => ?_)
  have hcd : cd = 0 := by
    have h1 : nI cd = nI 0 := h0
    rw [p_eq (by omega) (by decide)] at h1; exact h1
  have w7 := w6 hcd
  refine lv_aload_n hx hb dL_law_1113 rfl (lv_at hl 5 rfl) ?_
  refine lv_iconst (v := (0 : Int32)) hx hb dL_law_1114 (by decide) ?_
  refine gl_lld E hO dL_law_1115 ?_
  refine lv_iload hx hb dL_law_1116 (lv_at hl 0 rfl) ?_
  refine lv_i2l (v := bv.toInt64) hx hb dL_law_1118 rfl ?_
  refine lr_lcmp hx hb dL_law_1119 w7 ?_
  exact lv_if_eq (tgt := 1125) hx hb dL_law_1120 (by decide) (fun _ => fin) (fun hne => absurd rfl hne)
set_option maxRecDepth 100000 in
set_option maxHeartbeats 4000000 in
theorem cs_14 {p : Program} {l : Launch} {e : Env} {R : Room} {s : State} {m : MethodId} {args : Array Value} {below : List Frame} {meth : Method} {c : Code} {H : Heap} {locs : List Loc} {ls : Array Slot} {cells slots : Nat} {Q : State → Prop} {X : gX} {z : Nat → Int64} {w : Nat → UInt64} (E : gE2 p s m args c cL_law X) (hml : c.maxLocals = 9) (hl0 : l.stackTraces = false) (hRf : 16 ≤ R.frames) (hRl : 1000 ≤ R.locals) (hRc : cells + 8 ≤ R.cells) (hRs : slots + 48 ≤ R.slots) {b L : Nat} {xs : Nat → Int32} (hXs : va_X b L xs s s.heap) (hbl : b < s.heap.size) (hbA : ¬ gA2 X b) {i : Int32} (hin : ∀ k : Nat, k < 5 → vp_in (i + nI k) L) {N : Nat} {σ : gMem} (hR : RR N σ σ) (hN : N ≤ 900000) (hM : gM X σ H) (hO : gO X z w H) (hS : va_S (gA2 X) s.heap H locs) (hl : lv_has ls 9 [(0, .ref b), (1, .ref (X.1 + 0)), (2, .ref (X.1 + 433)), (3, .ref (X.1 + 440)), (4, .ref (X.1 + 441)), (5, .int i)]) (kk : ∀ (H : Heap) (locs : List Loc) (ls : Array Slot) (σ : gMem) (z : Nat → Int64) (w : Nat → UInt64) (c1 s1 : Nat), c1 ≤ 8 → s1 ≤ 48 → RR (N + 1440) σ σ → gM X σ H → gO X z w H → va_S (gA2 X) s.heap H locs → lv_has ls 9 [(0, .ref b), (1, .ref (X.1 + 0)), (2, .ref (X.1 + 433)), (3, .ref (X.1 + 440)), (4, .ref (X.1 + 441)), (5, .int i)] → W p l e R s m args below meth c H locs (cells + c1) (slots + s1) Q (F0 m 2231 ls [])) : W p l e R s m args below meth c H locs cells slots Q (F0 m 1128 ls []) := by
  obtain ⟨hx, hb⟩ := (⟨E.1.1, E.1.2.1⟩ : _ ∧ _)
  refine lv_aload_n hx hb dL_law_1128 rfl (lv_at hl 1 rfl) ?_
  refine lv_aload_n hx hb dL_law_1129 rfl (lv_at hl 0 rfl) ?_
  refine lv_iload hx hb dL_law_1130 (lv_at hl 5 rfl) ?_
  refine lv_iconst (v := (1 : Int32)) hx hb dL_law_1132 (by decide) ?_
  refine lv_iadd hx hb dL_law_1133 ?_
  refine va_sld hx hb hXs hbl hbA hS (hin 1 (by decide)) dL_law_1134 ?_
  refine lv_aload_n hx hb dL_law_1135 rfl (lv_at hl 3 rfl) ?_
  obtain ⟨cd, z1, σ1, bv, σ2, w1, w2, w3, w4, w5, w6⟩ := stp_spare (z := z) (w := w) hR hN (xs (i + nI 1).toNatClampNeg)
  refine gq_W (n := 3) (As := [.ref (X.1 + 0), .int (xs (i + nI 1).toNatClampNeg), .ref (X.1 + 440)]) E hml hl.1 (cw_spare l X hl0 (xs (i + nI 1).toNatClampNeg) z w σ w1) wlw_spare_s wlw_ini wlw_spare_c (by decide +kernel) wlL_184 rfl hM hO hS rfl rfl (Nat.le_trans (by decide) hRf) (Nat.le_trans (by decide) hRl) (Nat.le_trans (by omega) hRc) (Nat.le_trans (by omega) hRs) (Nat.le_of_ble_eq_true rfl) dL_law_1136 rfl (fun H locs hM hO hS => ?_)
  refine lv_istore (lv' := [(6, .int (nI cd)), (0, .ref b), (1, .ref (X.1 + 0)), (2, .ref (X.1 + 433)), (3, .ref (X.1 + 440)), (4, .ref (X.1 + 441)), (5, .int i)]) hx hb dL_law_1139 hl (by decide) rfl (fun ls hl => ?_)
  refine lv_aload_n hx hb dL_law_1141 rfl (lv_at hl 3 rfl) ?_
  refine lv_aload_n hx hb dL_law_1142 rfl (lv_at hl 1 rfl) ?_
  refine lv_iload hx hb dL_law_1143 (lv_at hl 6 rfl) ?_
  refine lv_iconst (v := (1 : Int32)) hx hb dL_law_1145 (by decide) ?_
  refine lv_iadd hx hb dL_law_1146 ?_
  refine va_sld hx hb hXs hbl hbA hS (hin 1 (by decide)) dL_law_1147 ?_
  refine gb_i (gq_V (c0 := 433) (As := [.int (xs (i + nI 1).toNatClampNeg)]) (ci := 9) (rm := { frames := 3, cells := 0, slots := 0, locals := 70 }) E hml hl.1 (c_X9_spare l X 433 (xs (i + nI 1).toNatClampNeg) σ1 rfl w2) wt_X9_spare wl_RL_186 rfl rfl (by decide) rfl rfl hM hS rfl rfl (Nat.le_trans (by decide) hRf) (Nat.le_trans (by decide) hRl) (Nat.le_trans (by omega) hRc) (Nat.le_trans (by omega) hRs) (Nat.le_of_ble_eq_true rfl) dL_law_1148 rfl) hO hS (fun H locs hM hO hS => ?_)
  refine lv_istore (lv' := [(7, .int bv), (6, .int (nI cd)), (0, .ref b), (1, .ref (X.1 + 0)), (2, .ref (X.1 + 433)), (3, .ref (X.1 + 440)), (4, .ref (X.1 + 441)), (5, .int i)]) hx hb dL_law_1151 hl (by decide) rfl (fun ls hl => ?_)
  refine lv_aload_n hx hb dL_law_1153 rfl (lv_at hl 4 rfl) ?_
  refine gb_i (gq_V (c0 := 433) (As := []) (ci := 9) (rm := { frames := 0, cells := 0, slots := 0, locals := 0 }) E hml hl.1 (c_X9_thrown l X 433 σ2 rfl (show f_X9_thrown 433 σ2 = some (nI cd, σ2) from congrArg (fun v => some (v, σ2)) w3)) wt_X9_thrown wl_RL_138 rfl rfl (by decide) rfl rfl hM hS rfl rfl (Nat.le_trans (by decide) hRf) (Nat.le_trans (by decide) hRl) (Nat.le_trans (by omega) hRc) (Nat.le_trans (by omega) hRs) (Nat.le_of_ble_eq_true rfl) dL_law_1154 rfl) hO hS (fun H locs hM hO hS => ?_)
  refine lv_iload hx hb dL_law_1157 (lv_at hl 1 rfl) ?_
  refine lv_icmp_eq (tgt := 1164) hx hb dL_law_1159 (by decide) (fun _ => ?_) (fun hne => absurd rfl hne)
  refine lv_iload hx hb dL_law_1164 (lv_at hl 1 rfl) ?_
  have fin : W p l e R s m args below meth c H locs (cells + 1 + 0 + 0) (slots + 6 + 0 + 0) Q (F0 m 1181 ls []) := by
    refine lv_goto (tgt := 2231) hx hb dL_law_1181 (by decide) ?_
    exact kk H locs ls σ2 z1 w _ _ (by decide) (by decide) w4 hM hO hS ⟨hl.1, hl.2.1, fun q hq => hl.2.2 q (List.mem_cons_of_mem _ (List.mem_cons_of_mem _ hq))⟩
  refine lv_if_ne (tgt := 1181) hx hb dL_law_1166 (by decide) (fun _ => fin) (fun h0 => ?_)
  have hcd : cd = 0 := by
    have h1 : nI cd = nI 0 := h0
    rw [p_eq (by omega) (by decide)] at h1; exact h1
  have w7 := w6 hcd
  refine lv_aload_n hx hb dL_law_1169 rfl (lv_at hl 5 rfl) ?_
  refine lv_iconst (v := (0 : Int32)) hx hb dL_law_1170 (by decide) ?_
  refine gl_lld E hO dL_law_1171 ?_
  refine lv_iload hx hb dL_law_1172 (lv_at hl 0 rfl) ?_
  refine lv_i2l (v := bv.toInt64) hx hb dL_law_1174 rfl ?_
  refine lr_lcmp hx hb dL_law_1175 w7 ?_
  exact lv_if_eq (tgt := 1181) hx hb dL_law_1176 (by decide) (fun _ => fin) (fun hne => absurd rfl hne)
set_option maxRecDepth 100000 in
set_option maxHeartbeats 4000000 in
theorem cs_15 {p : Program} {l : Launch} {e : Env} {R : Room} {s : State} {m : MethodId} {args : Array Value} {below : List Frame} {meth : Method} {c : Code} {H : Heap} {locs : List Loc} {ls : Array Slot} {cells slots : Nat} {Q : State → Prop} {X : gX} {z : Nat → Int64} {w : Nat → UInt64} (E : gE2 p s m args c cL_law X) (hml : c.maxLocals = 9) (hl0 : l.stackTraces = false) (hRf : 16 ≤ R.frames) (hRl : 1000 ≤ R.locals) (hRc : cells + 8 ≤ R.cells) (hRs : slots + 48 ≤ R.slots) {b L : Nat} {xs : Nat → Int32} (hXs : va_X b L xs s s.heap) (hbl : b < s.heap.size) (hbA : ¬ gA2 X b) {i : Int32} (hin : ∀ k : Nat, k < 5 → vp_in (i + nI k) L) {N : Nat} {σ : gMem} (hR : RR N σ σ) (hN : N ≤ 900000) (hM : gM X σ H) (hO : gO X z w H) (hS : va_S (gA2 X) s.heap H locs) (hl : lv_has ls 9 [(0, .ref b), (1, .ref (X.1 + 0)), (2, .ref (X.1 + 433)), (3, .ref (X.1 + 440)), (4, .ref (X.1 + 441)), (5, .int i)]) (kk : ∀ (H : Heap) (locs : List Loc) (ls : Array Slot) (σ : gMem) (z : Nat → Int64) (w : Nat → UInt64) (c1 s1 : Nat), c1 ≤ 8 → s1 ≤ 48 → RR (N + 1440) σ σ → gM X σ H → gO X z w H → va_S (gA2 X) s.heap H locs → lv_has ls 9 [(0, .ref b), (1, .ref (X.1 + 0)), (2, .ref (X.1 + 433)), (3, .ref (X.1 + 440)), (4, .ref (X.1 + 441)), (5, .int i)] → W p l e R s m args below meth c H locs (cells + c1) (slots + s1) Q (F0 m 2231 ls [])) : W p l e R s m args below meth c H locs cells slots Q (F0 m 1184 ls []) := by
  obtain ⟨hx, hb⟩ := (⟨E.1.1, E.1.2.1⟩ : _ ∧ _)
  refine lv_aload_n hx hb dL_law_1184 rfl (lv_at hl 1 rfl) ?_
  refine lv_aload_n hx hb dL_law_1185 rfl (lv_at hl 0 rfl) ?_
  refine lv_iload hx hb dL_law_1186 (lv_at hl 5 rfl) ?_
  refine lv_iconst (v := (1 : Int32)) hx hb dL_law_1188 (by decide) ?_
  refine lv_iadd hx hb dL_law_1189 ?_
  refine va_sld hx hb hXs hbl hbA hS (hin 1 (by decide)) dL_law_1190 ?_
  refine lv_aload_n hx hb dL_law_1191 rfl (lv_at hl 3 rfl) ?_
  obtain ⟨cd, z1, σ1, bv, σ2, w1, w2, w3, w4, w5, w6⟩ := stp_sign (z := z) (w := w) hR hN (xs (i + nI 1).toNatClampNeg)
  refine gq_W (n := 3) (As := [.ref (X.1 + 0), .int (xs (i + nI 1).toNatClampNeg), .ref (X.1 + 440)]) E hml hl.1 (cw_sign l X hl0 (xs (i + nI 1).toNatClampNeg) z w σ w1) wlw_sign_s wlw_ini wlw_sign_c (by decide +kernel) wlL_187 rfl hM hO hS rfl rfl (Nat.le_trans (by decide) hRf) (Nat.le_trans (by decide) hRl) (Nat.le_trans (by omega) hRc) (Nat.le_trans (by omega) hRs) (Nat.le_of_ble_eq_true rfl) dL_law_1192 rfl (fun H locs hM hO hS => ?_)
  refine lv_istore (lv' := [(6, .int (nI cd)), (0, .ref b), (1, .ref (X.1 + 0)), (2, .ref (X.1 + 433)), (3, .ref (X.1 + 440)), (4, .ref (X.1 + 441)), (5, .int i)]) hx hb dL_law_1195 hl (by decide) rfl (fun ls hl => ?_)
  refine lv_aload_n hx hb dL_law_1197 rfl (lv_at hl 3 rfl) ?_
  refine lv_aload_n hx hb dL_law_1198 rfl (lv_at hl 1 rfl) ?_
  refine lv_iload hx hb dL_law_1199 (lv_at hl 6 rfl) ?_
  refine lv_iconst (v := (1 : Int32)) hx hb dL_law_1201 (by decide) ?_
  refine lv_iadd hx hb dL_law_1202 ?_
  refine va_sld hx hb hXs hbl hbA hS (hin 1 (by decide)) dL_law_1203 ?_
  refine gb_i (gq_V (c0 := 433) (As := [.int (xs (i + nI 1).toNatClampNeg)]) (ci := 9) (rm := { frames := 3, cells := 0, slots := 0, locals := 70 }) E hml hl.1 (c_X9_sign l X 433 (xs (i + nI 1).toNatClampNeg) σ1 rfl w2) wt_X9_sign wl_RL_189 rfl rfl (by decide) rfl rfl hM hS rfl rfl (Nat.le_trans (by decide) hRf) (Nat.le_trans (by decide) hRl) (Nat.le_trans (by omega) hRc) (Nat.le_trans (by omega) hRs) (Nat.le_of_ble_eq_true rfl) dL_law_1204 rfl) hO hS (fun H locs hM hO hS => ?_)
  refine lv_istore (lv' := [(7, .int bv), (6, .int (nI cd)), (0, .ref b), (1, .ref (X.1 + 0)), (2, .ref (X.1 + 433)), (3, .ref (X.1 + 440)), (4, .ref (X.1 + 441)), (5, .int i)]) hx hb dL_law_1207 hl (by decide) rfl (fun ls hl => ?_)
  refine lv_aload_n hx hb dL_law_1209 rfl (lv_at hl 4 rfl) ?_
  refine gb_i (gq_V (c0 := 433) (As := []) (ci := 9) (rm := { frames := 0, cells := 0, slots := 0, locals := 0 }) E hml hl.1 (c_X9_thrown l X 433 σ2 rfl (show f_X9_thrown 433 σ2 = some (nI cd, σ2) from congrArg (fun v => some (v, σ2)) w3)) wt_X9_thrown wl_RL_138 rfl rfl (by decide) rfl rfl hM hS rfl rfl (Nat.le_trans (by decide) hRf) (Nat.le_trans (by decide) hRl) (Nat.le_trans (by omega) hRc) (Nat.le_trans (by omega) hRs) (Nat.le_of_ble_eq_true rfl) dL_law_1210 rfl) hO hS (fun H locs hM hO hS => ?_)
  refine lv_iload hx hb dL_law_1213 (lv_at hl 1 rfl) ?_
  refine lv_icmp_eq (tgt := 1220) hx hb dL_law_1215 (by decide) (fun _ => ?_) (fun hne => absurd rfl hne)
  refine lv_iload hx hb dL_law_1220 (lv_at hl 1 rfl) ?_
  have fin : W p l e R s m args below meth c H locs (cells + 1 + 0 + 0) (slots + 6 + 0 + 0) Q (F0 m 1237 ls []) := by
    refine lv_goto (tgt := 2231) hx hb dL_law_1237 (by decide) ?_
    exact kk H locs ls σ2 z1 w _ _ (by decide) (by decide) w4 hM hO hS ⟨hl.1, hl.2.1, fun q hq => hl.2.2 q (List.mem_cons_of_mem _ (List.mem_cons_of_mem _ hq))⟩
  refine lv_if_ne (tgt := 1237) hx hb dL_law_1222 (by decide) (fun _ => fin) (fun h0 => ?_)
  have hcd : cd = 0 := by
    have h1 : nI cd = nI 0 := h0
    rw [p_eq (by omega) (by decide)] at h1; exact h1
  have w7 := w6 hcd
  refine lv_aload_n hx hb dL_law_1225 rfl (lv_at hl 5 rfl) ?_
  refine lv_iconst (v := (0 : Int32)) hx hb dL_law_1226 (by decide) ?_
  refine gl_lld E hO dL_law_1227 ?_
  refine lv_iload hx hb dL_law_1228 (lv_at hl 0 rfl) ?_
  refine lv_i2l (v := bv.toInt64) hx hb dL_law_1230 rfl ?_
  refine lr_lcmp hx hb dL_law_1231 w7 ?_
  exact lv_if_eq (tgt := 1237) hx hb dL_law_1232 (by decide) (fun _ => fin) (fun hne => absurd rfl hne)
set_option maxRecDepth 100000 in
set_option maxHeartbeats 4000000 in
theorem cs_16 {p : Program} {l : Launch} {e : Env} {R : Room} {s : State} {m : MethodId} {args : Array Value} {below : List Frame} {meth : Method} {c : Code} {H : Heap} {locs : List Loc} {ls : Array Slot} {cells slots : Nat} {Q : State → Prop} {X : gX} {z : Nat → Int64} {w : Nat → UInt64} (E : gE2 p s m args c cL_law X) (hml : c.maxLocals = 9) (hl0 : l.stackTraces = false) (hRf : 16 ≤ R.frames) (hRl : 1000 ≤ R.locals) (hRc : cells + 8 ≤ R.cells) (hRs : slots + 48 ≤ R.slots) {b L : Nat} {xs : Nat → Int32} (hXs : va_X b L xs s s.heap) (hbl : b < s.heap.size) (hbA : ¬ gA2 X b) {i : Int32} (hin : ∀ k : Nat, k < 5 → vp_in (i + nI k) L) {N : Nat} {σ : gMem} (hR : RR N σ σ) (hN : N ≤ 900000) (hM : gM X σ H) (hO : gO X z w H) (hS : va_S (gA2 X) s.heap H locs) (hl : lv_has ls 9 [(0, .ref b), (1, .ref (X.1 + 0)), (2, .ref (X.1 + 433)), (3, .ref (X.1 + 440)), (4, .ref (X.1 + 441)), (5, .int i)]) (kk : ∀ (H : Heap) (locs : List Loc) (ls : Array Slot) (σ : gMem) (z : Nat → Int64) (w : Nat → UInt64) (c1 s1 : Nat), c1 ≤ 8 → s1 ≤ 48 → RR (N + 1440) σ σ → gM X σ H → gO X z w H → va_S (gA2 X) s.heap H locs → lv_has ls 9 [(0, .ref b), (1, .ref (X.1 + 0)), (2, .ref (X.1 + 433)), (3, .ref (X.1 + 440)), (4, .ref (X.1 + 441)), (5, .int i)] → W p l e R s m args below meth c H locs (cells + c1) (slots + s1) Q (F0 m 2231 ls [])) : W p l e R s m args below meth c H locs cells slots Q (F0 m 1240 ls []) := by
  obtain ⟨hx, hb⟩ := (⟨E.1.1, E.1.2.1⟩ : _ ∧ _)
  refine lv_aload_n hx hb dL_law_1240 rfl (lv_at hl 1 rfl) ?_
  refine lv_aload_n hx hb dL_law_1241 rfl (lv_at hl 0 rfl) ?_
  refine lv_iload hx hb dL_law_1242 (lv_at hl 5 rfl) ?_
  refine lv_iconst (v := (1 : Int32)) hx hb dL_law_1244 (by decide) ?_
  refine lv_iadd hx hb dL_law_1245 ?_
  refine va_sld hx hb hXs hbl hbA hS (hin 1 (by decide)) dL_law_1246 ?_
  refine lv_aload_n hx hb dL_law_1247 rfl (lv_at hl 0 rfl) ?_
  refine lv_iload hx hb dL_law_1248 (lv_at hl 5 rfl) ?_
  refine lv_iconst (v := (2 : Int32)) hx hb dL_law_1250 (by decide) ?_
  refine lv_iadd hx hb dL_law_1251 ?_
  refine va_sld hx hb hXs hbl hbA hS (hin 2 (by decide)) dL_law_1252 ?_
  refine lv_aload_n hx hb dL_law_1253 rfl (lv_at hl 3 rfl) ?_
  obtain ⟨cd, z1, σ1, bv, σ2, w1, w2, w3, w4, w5, w6⟩ := stp_stands (z := z) (w := w) hR hN (xs (i + nI 1).toNatClampNeg) (xs (i + nI 2).toNatClampNeg)
  refine gq_W (n := 4) (As := [.ref (X.1 + 0), .int (xs (i + nI 1).toNatClampNeg), .int (xs (i + nI 2).toNatClampNeg), .ref (X.1 + 440)]) E hml hl.1 (cw_stands l X hl0 (xs (i + nI 1).toNatClampNeg) (xs (i + nI 2).toNatClampNeg) z w σ w1) wlw_stands_s wlw_ini wlw_stands_c (by decide +kernel) wlL_190 rfl hM hO hS rfl rfl (Nat.le_trans (by decide) hRf) (Nat.le_trans (by decide) hRl) (Nat.le_trans (by omega) hRc) (Nat.le_trans (by omega) hRs) (Nat.le_of_ble_eq_true rfl) dL_law_1254 rfl (fun H locs hM hO hS => ?_)
  refine lv_istore (lv' := [(6, .int (nI cd)), (0, .ref b), (1, .ref (X.1 + 0)), (2, .ref (X.1 + 433)), (3, .ref (X.1 + 440)), (4, .ref (X.1 + 441)), (5, .int i)]) hx hb dL_law_1257 hl (by decide) rfl (fun ls hl => ?_)
  refine lv_aload_n hx hb dL_law_1259 rfl (lv_at hl 3 rfl) ?_
  refine lv_aload_n hx hb dL_law_1260 rfl (lv_at hl 1 rfl) ?_
  refine lv_iload hx hb dL_law_1261 (lv_at hl 6 rfl) ?_
  refine lv_iconst (v := (1 : Int32)) hx hb dL_law_1263 (by decide) ?_
  refine lv_iadd hx hb dL_law_1264 ?_
  refine va_sld hx hb hXs hbl hbA hS (hin 1 (by decide)) dL_law_1265 ?_
  refine lv_aload_n hx hb dL_law_1266 rfl (lv_at hl 1 rfl) ?_
  refine lv_iload hx hb dL_law_1267 (lv_at hl 6 rfl) ?_
  refine lv_iconst (v := (2 : Int32)) hx hb dL_law_1269 (by decide) ?_
  refine lv_iadd hx hb dL_law_1270 ?_
  refine va_sld hx hb hXs hbl hbA hS (hin 2 (by decide)) dL_law_1271 ?_
  refine gb_i (gq_V (c0 := 433) (As := [.int (xs (i + nI 1).toNatClampNeg), .int (xs (i + nI 2).toNatClampNeg)]) (ci := 9) (rm := { frames := 3, cells := 0, slots := 0, locals := 70 }) E hml hl.1 (c_X9_stands l X 433 (xs (i + nI 1).toNatClampNeg) (xs (i + nI 2).toNatClampNeg) σ1 rfl w2) wt_X9_stands wl_RL_192 rfl rfl (by decide) rfl rfl hM hS rfl rfl (Nat.le_trans (by decide) hRf) (Nat.le_trans (by decide) hRl) (Nat.le_trans (by omega) hRc) (Nat.le_trans (by omega) hRs) (Nat.le_of_ble_eq_true rfl) dL_law_1272 rfl) hO hS (fun H locs hM hO hS => ?_)
  refine lv_istore (lv' := [(7, .int bv), (6, .int (nI cd)), (0, .ref b), (1, .ref (X.1 + 0)), (2, .ref (X.1 + 433)), (3, .ref (X.1 + 440)), (4, .ref (X.1 + 441)), (5, .int i)]) hx hb dL_law_1275 hl (by decide) rfl (fun ls hl => ?_)
  refine lv_aload_n hx hb dL_law_1277 rfl (lv_at hl 4 rfl) ?_
  refine gb_i (gq_V (c0 := 433) (As := []) (ci := 9) (rm := { frames := 0, cells := 0, slots := 0, locals := 0 }) E hml hl.1 (c_X9_thrown l X 433 σ2 rfl (show f_X9_thrown 433 σ2 = some (nI cd, σ2) from congrArg (fun v => some (v, σ2)) w3)) wt_X9_thrown wl_RL_138 rfl rfl (by decide) rfl rfl hM hS rfl rfl (Nat.le_trans (by decide) hRf) (Nat.le_trans (by decide) hRl) (Nat.le_trans (by omega) hRc) (Nat.le_trans (by omega) hRs) (Nat.le_of_ble_eq_true rfl) dL_law_1278 rfl) hO hS (fun H locs hM hO hS => ?_)
  refine lv_iload hx hb dL_law_1281 (lv_at hl 1 rfl) ?_
  refine lv_icmp_eq (tgt := 1288) hx hb dL_law_1283 (by decide) (fun _ => ?_) (fun hne => absurd rfl hne)
  refine lv_iload hx hb dL_law_1288 (lv_at hl 1 rfl) ?_
  have fin : W p l e R s m args below meth c H locs (cells + 2 + 0 + 0) (slots + 12 + 0 + 0) Q (F0 m 1312 ls []) := by
    refine lv_goto (tgt := 2231) hx hb dL_law_1312 (by decide) ?_
    exact kk H locs ls σ2 z1 w _ _ (by decide) (by decide) w4 hM hO hS ⟨hl.1, hl.2.1, fun q hq => hl.2.2 q (List.mem_cons_of_mem _ (List.mem_cons_of_mem _ hq))⟩
  refine lv_if_ne (tgt := 1312) hx hb dL_law_1290 (by decide) (fun _ => fin) (fun h0 => ?_)
  have hcd : cd = 0 := by
    have h1 : nI cd = nI 0 := h0
    rw [p_eq (by omega) (by decide)] at h1; exact h1
  have w7 := w6 hcd
  refine lv_aload_n hx hb dL_law_1293 rfl (lv_at hl 5 rfl) ?_
  refine lv_iconst (v := (0 : Int32)) hx hb dL_law_1294 (by decide) ?_
  refine gl_lld E hO dL_law_1295 ?_
  refine lv_iload hx hb dL_law_1296 (lv_at hl 0 rfl) ?_
  refine lv_if_eq (tgt := 1305) hx hb dL_law_1298 (by decide) (fun hz => ?_) (fun hz => ?_)
  · refine lv_lconst (v := 0) hx hb dL_law_1305 rfl ?_
    refine lr_lcmp hx hb dL_law_1306 (w7.trans (if_pos hz)) ?_
    exact lv_if_eq (tgt := 1312) hx hb dL_law_1307 (by decide) (fun _ => fin) (fun hne => absurd rfl hne)
  · refine lv_lconst (v := 1) hx hb dL_law_1301 rfl ?_
    refine lv_goto (tgt := 1306) hx hb dL_law_1302 (by decide) ?_
    refine lr_lcmp hx hb dL_law_1306 (w7.trans (if_neg hz)) ?_
    exact lv_if_eq (tgt := 1312) hx hb dL_law_1307 (by decide) (fun _ => fin) (fun hne => absurd rfl hne)
set_option maxRecDepth 100000 in
set_option maxHeartbeats 4000000 in
theorem cs_17 {p : Program} {l : Launch} {e : Env} {R : Room} {s : State} {m : MethodId} {args : Array Value} {below : List Frame} {meth : Method} {c : Code} {H : Heap} {locs : List Loc} {ls : Array Slot} {cells slots : Nat} {Q : State → Prop} {X : gX} {z : Nat → Int64} {w : Nat → UInt64} (E : gE2 p s m args c cL_law X) (hml : c.maxLocals = 9) (hl0 : l.stackTraces = false) (hRf : 16 ≤ R.frames) (hRl : 1000 ≤ R.locals) (hRc : cells + 8 ≤ R.cells) (hRs : slots + 48 ≤ R.slots) {b L : Nat} {xs : Nat → Int32} (hXs : va_X b L xs s s.heap) (hbl : b < s.heap.size) (hbA : ¬ gA2 X b) {i : Int32} (hin : ∀ k : Nat, k < 5 → vp_in (i + nI k) L) {N : Nat} {σ : gMem} (hR : RR N σ σ) (hN : N ≤ 900000) (hM : gM X σ H) (hO : gO X z w H) (hS : va_S (gA2 X) s.heap H locs) (hl : lv_has ls 9 [(0, .ref b), (1, .ref (X.1 + 0)), (2, .ref (X.1 + 433)), (3, .ref (X.1 + 440)), (4, .ref (X.1 + 441)), (5, .int i)]) (kk : ∀ (H : Heap) (locs : List Loc) (ls : Array Slot) (σ : gMem) (z : Nat → Int64) (w : Nat → UInt64) (c1 s1 : Nat), c1 ≤ 8 → s1 ≤ 48 → RR (N + 1440) σ σ → gM X σ H → gO X z w H → va_S (gA2 X) s.heap H locs → lv_has ls 9 [(0, .ref b), (1, .ref (X.1 + 0)), (2, .ref (X.1 + 433)), (3, .ref (X.1 + 440)), (4, .ref (X.1 + 441)), (5, .int i)] → W p l e R s m args below meth c H locs (cells + c1) (slots + s1) Q (F0 m 2231 ls [])) : W p l e R s m args below meth c H locs cells slots Q (F0 m 1315 ls []) := by
  obtain ⟨hx, hb⟩ := (⟨E.1.1, E.1.2.1⟩ : _ ∧ _)
  refine lv_aload_n hx hb dL_law_1315 rfl (lv_at hl 1 rfl) ?_
  refine lv_aload_n hx hb dL_law_1316 rfl (lv_at hl 0 rfl) ?_
  refine lv_iload hx hb dL_law_1317 (lv_at hl 5 rfl) ?_
  refine lv_iconst (v := (1 : Int32)) hx hb dL_law_1319 (by decide) ?_
  refine lv_iadd hx hb dL_law_1320 ?_
  refine va_sld hx hb hXs hbl hbA hS (hin 1 (by decide)) dL_law_1321 ?_
  refine lv_aload_n hx hb dL_law_1322 rfl (lv_at hl 3 rfl) ?_
  obtain ⟨cd, z1, σ1, bv, σ2, w1, w2, w3, w4, w5, w6⟩ := stp_breaksIn (z := z) (w := w) hR hN (xs (i + nI 1).toNatClampNeg)
  refine gq_W (n := 3) (As := [.ref (X.1 + 0), .int (xs (i + nI 1).toNatClampNeg), .ref (X.1 + 440)]) E hml hl.1 (cw_breaksIn l X hl0 (xs (i + nI 1).toNatClampNeg) z w σ w1) wlw_breaksIn_s wlw_ini wlw_breaksIn_c (by decide +kernel) wlL_193 rfl hM hO hS rfl rfl (Nat.le_trans (by decide) hRf) (Nat.le_trans (by decide) hRl) (Nat.le_trans (by omega) hRc) (Nat.le_trans (by omega) hRs) (Nat.le_of_ble_eq_true rfl) dL_law_1323 rfl (fun H locs hM hO hS => ?_)
  refine lv_istore (lv' := [(6, .int (nI cd)), (0, .ref b), (1, .ref (X.1 + 0)), (2, .ref (X.1 + 433)), (3, .ref (X.1 + 440)), (4, .ref (X.1 + 441)), (5, .int i)]) hx hb dL_law_1326 hl (by decide) rfl (fun ls hl => ?_)
  refine lv_aload_n hx hb dL_law_1328 rfl (lv_at hl 3 rfl) ?_
  refine lv_aload_n hx hb dL_law_1329 rfl (lv_at hl 1 rfl) ?_
  refine lv_iload hx hb dL_law_1330 (lv_at hl 6 rfl) ?_
  refine lv_iconst (v := (1 : Int32)) hx hb dL_law_1332 (by decide) ?_
  refine lv_iadd hx hb dL_law_1333 ?_
  refine va_sld hx hb hXs hbl hbA hS (hin 1 (by decide)) dL_law_1334 ?_
  refine gb_i (gq_V (c0 := 433) (As := [.int (xs (i + nI 1).toNatClampNeg)]) (ci := 9) (rm := { frames := 3, cells := 0, slots := 0, locals := 70 }) E hml hl.1 (c_X9_breaksIn l X 433 (xs (i + nI 1).toNatClampNeg) σ1 rfl w2) wt_X9_breaksIn wl_RL_195 rfl rfl (by decide) rfl rfl hM hS rfl rfl (Nat.le_trans (by decide) hRf) (Nat.le_trans (by decide) hRl) (Nat.le_trans (by omega) hRc) (Nat.le_trans (by omega) hRs) (Nat.le_of_ble_eq_true rfl) dL_law_1335 rfl) hO hS (fun H locs hM hO hS => ?_)
  refine lv_istore (lv' := [(7, .int bv), (6, .int (nI cd)), (0, .ref b), (1, .ref (X.1 + 0)), (2, .ref (X.1 + 433)), (3, .ref (X.1 + 440)), (4, .ref (X.1 + 441)), (5, .int i)]) hx hb dL_law_1338 hl (by decide) rfl (fun ls hl => ?_)
  refine lv_aload_n hx hb dL_law_1340 rfl (lv_at hl 4 rfl) ?_
  refine gb_i (gq_V (c0 := 433) (As := []) (ci := 9) (rm := { frames := 0, cells := 0, slots := 0, locals := 0 }) E hml hl.1 (c_X9_thrown l X 433 σ2 rfl (show f_X9_thrown 433 σ2 = some (nI cd, σ2) from congrArg (fun v => some (v, σ2)) w3)) wt_X9_thrown wl_RL_138 rfl rfl (by decide) rfl rfl hM hS rfl rfl (Nat.le_trans (by decide) hRf) (Nat.le_trans (by decide) hRl) (Nat.le_trans (by omega) hRc) (Nat.le_trans (by omega) hRs) (Nat.le_of_ble_eq_true rfl) dL_law_1341 rfl) hO hS (fun H locs hM hO hS => ?_)
  refine lv_iload hx hb dL_law_1344 (lv_at hl 1 rfl) ?_
  refine lv_icmp_eq (tgt := 1351) hx hb dL_law_1346 (by decide) (fun _ => ?_) (fun hne => absurd rfl hne)
  refine lv_iload hx hb dL_law_1351 (lv_at hl 1 rfl) ?_
  have fin : W p l e R s m args below meth c H locs (cells + 2 + 0 + 0) (slots + 12 + 0 + 0) Q (F0 m 1368 ls []) := by
    refine lv_goto (tgt := 2231) hx hb dL_law_1368 (by decide) ?_
    exact kk H locs ls σ2 z1 w _ _ (by decide) (by decide) w4 hM hO hS ⟨hl.1, hl.2.1, fun q hq => hl.2.2 q (List.mem_cons_of_mem _ (List.mem_cons_of_mem _ hq))⟩
  refine lv_if_ne (tgt := 1368) hx hb dL_law_1353 (by decide) (fun _ => fin) (fun h0 => ?_)
  have hcd : cd = 0 := by
    have h1 : nI cd = nI 0 := h0
    rw [p_eq (by omega) (by decide)] at h1; exact h1
  have w7 := w6 hcd
  refine lv_aload_n hx hb dL_law_1356 rfl (lv_at hl 5 rfl) ?_
  refine lv_iconst (v := (0 : Int32)) hx hb dL_law_1357 (by decide) ?_
  refine gl_lld E hO dL_law_1358 ?_
  refine lv_iload hx hb dL_law_1359 (lv_at hl 0 rfl) ?_
  refine lv_i2l (v := bv.toInt64) hx hb dL_law_1361 rfl ?_
  refine lr_lcmp hx hb dL_law_1362 w7 ?_
  exact lv_if_eq (tgt := 1368) hx hb dL_law_1363 (by decide) (fun _ => fin) (fun hne => absurd rfl hne)
set_option maxRecDepth 100000 in
set_option maxHeartbeats 4000000 in
theorem cs_18 {p : Program} {l : Launch} {e : Env} {R : Room} {s : State} {m : MethodId} {args : Array Value} {below : List Frame} {meth : Method} {c : Code} {H : Heap} {locs : List Loc} {ls : Array Slot} {cells slots : Nat} {Q : State → Prop} {X : gX} {z : Nat → Int64} {w : Nat → UInt64} (E : gE2 p s m args c cL_law X) (hml : c.maxLocals = 9) (hl0 : l.stackTraces = false) (hRf : 16 ≤ R.frames) (hRl : 1000 ≤ R.locals) (hRc : cells + 8 ≤ R.cells) (hRs : slots + 48 ≤ R.slots) {b L : Nat} {xs : Nat → Int32} (hXs : va_X b L xs s s.heap) (hbl : b < s.heap.size) (hbA : ¬ gA2 X b) {i : Int32} (hin : ∀ k : Nat, k < 5 → vp_in (i + nI k) L) {N : Nat} {σ : gMem} (hR : RR N σ σ) (hN : N ≤ 900000) (hM : gM X σ H) (hO : gO X z w H) (hS : va_S (gA2 X) s.heap H locs) (hl : lv_has ls 9 [(0, .ref b), (1, .ref (X.1 + 0)), (2, .ref (X.1 + 433)), (3, .ref (X.1 + 440)), (4, .ref (X.1 + 441)), (5, .int i)]) (kk : ∀ (H : Heap) (locs : List Loc) (ls : Array Slot) (σ : gMem) (z : Nat → Int64) (w : Nat → UInt64) (c1 s1 : Nat), c1 ≤ 8 → s1 ≤ 48 → RR (N + 1440) σ σ → gM X σ H → gO X z w H → va_S (gA2 X) s.heap H locs → lv_has ls 9 [(0, .ref b), (1, .ref (X.1 + 0)), (2, .ref (X.1 + 433)), (3, .ref (X.1 + 440)), (4, .ref (X.1 + 441)), (5, .int i)] → W p l e R s m args below meth c H locs (cells + c1) (slots + s1) Q (F0 m 2231 ls [])) : W p l e R s m args below meth c H locs cells slots Q (F0 m 1371 ls []) := by
  obtain ⟨hx, hb⟩ := (⟨E.1.1, E.1.2.1⟩ : _ ∧ _)
  refine lv_aload_n hx hb dL_law_1371 rfl (lv_at hl 1 rfl) ?_
  refine lv_aload_n hx hb dL_law_1372 rfl (lv_at hl 0 rfl) ?_
  refine lv_iload hx hb dL_law_1373 (lv_at hl 5 rfl) ?_
  refine lv_iconst (v := (1 : Int32)) hx hb dL_law_1375 (by decide) ?_
  refine lv_iadd hx hb dL_law_1376 ?_
  refine va_sld hx hb hXs hbl hbA hS (hin 1 (by decide)) dL_law_1377 ?_
  refine lv_aload_n hx hb dL_law_1378 rfl (lv_at hl 0 rfl) ?_
  refine lv_iload hx hb dL_law_1379 (lv_at hl 5 rfl) ?_
  refine lv_iconst (v := (2 : Int32)) hx hb dL_law_1381 (by decide) ?_
  refine lv_iadd hx hb dL_law_1382 ?_
  refine va_sld hx hb hXs hbl hbA hS (hin 2 (by decide)) dL_law_1383 ?_
  refine lv_aload_n hx hb dL_law_1384 rfl (lv_at hl 0 rfl) ?_
  refine lv_iload hx hb dL_law_1385 (lv_at hl 5 rfl) ?_
  refine lv_iconst (v := (3 : Int32)) hx hb dL_law_1387 (by decide) ?_
  refine lv_iadd hx hb dL_law_1388 ?_
  refine va_sld hx hb hXs hbl hbA hS (hin 3 (by decide)) dL_law_1389 ?_
  refine lv_aload_n hx hb dL_law_1390 rfl (lv_at hl 3 rfl) ?_
  obtain ⟨cd, z1, σ1, bv, σ2, w1, w2, w3, w4, w5, w6⟩ := stp_banquet (z := z) (w := w) hR hN (xs (i + nI 1).toNatClampNeg) (xs (i + nI 2).toNatClampNeg) (xs (i + nI 3).toNatClampNeg)
  refine gq_W (n := 5) (As := [.ref (X.1 + 0), .int (xs (i + nI 1).toNatClampNeg), .int (xs (i + nI 2).toNatClampNeg), .int (xs (i + nI 3).toNatClampNeg), .ref (X.1 + 440)]) E hml hl.1 (cw_banquet l X hl0 (xs (i + nI 1).toNatClampNeg) (xs (i + nI 2).toNatClampNeg) (xs (i + nI 3).toNatClampNeg) z w σ w1) wlw_banquet_s wlw_ini wlw_banquet_c (by decide +kernel) wlL_196 rfl hM hO hS rfl rfl (Nat.le_trans (by decide) hRf) (Nat.le_trans (by decide) hRl) (Nat.le_trans (by omega) hRc) (Nat.le_trans (by omega) hRs) (Nat.le_of_ble_eq_true rfl) dL_law_1391 rfl (fun H locs hM hO hS => ?_)
  refine lv_istore (lv' := [(6, .int (nI cd)), (0, .ref b), (1, .ref (X.1 + 0)), (2, .ref (X.1 + 433)), (3, .ref (X.1 + 440)), (4, .ref (X.1 + 441)), (5, .int i)]) hx hb dL_law_1394 hl (by decide) rfl (fun ls hl => ?_)
  refine lv_aload_n hx hb dL_law_1396 rfl (lv_at hl 3 rfl) ?_
  refine lv_aload_n hx hb dL_law_1397 rfl (lv_at hl 1 rfl) ?_
  refine lv_iload hx hb dL_law_1398 (lv_at hl 6 rfl) ?_
  refine lv_iconst (v := (1 : Int32)) hx hb dL_law_1400 (by decide) ?_
  refine lv_iadd hx hb dL_law_1401 ?_
  refine va_sld hx hb hXs hbl hbA hS (hin 1 (by decide)) dL_law_1402 ?_
  refine lv_aload_n hx hb dL_law_1403 rfl (lv_at hl 1 rfl) ?_
  refine lv_iload hx hb dL_law_1404 (lv_at hl 6 rfl) ?_
  refine lv_iconst (v := (2 : Int32)) hx hb dL_law_1406 (by decide) ?_
  refine lv_iadd hx hb dL_law_1407 ?_
  refine va_sld hx hb hXs hbl hbA hS (hin 2 (by decide)) dL_law_1408 ?_
  refine lv_aload_n hx hb dL_law_1409 rfl (lv_at hl 1 rfl) ?_
  refine lv_iload hx hb dL_law_1410 (lv_at hl 6 rfl) ?_
  refine lv_iconst (v := (3 : Int32)) hx hb dL_law_1412 (by decide) ?_
  refine lv_iadd hx hb dL_law_1413 ?_
  refine va_sld hx hb hXs hbl hbA hS (hin 3 (by decide)) dL_law_1414 ?_
  refine gb_i (gq_V (c0 := 433) (As := [.int (xs (i + nI 1).toNatClampNeg), .int (xs (i + nI 2).toNatClampNeg), .int (xs (i + nI 3).toNatClampNeg)]) (ci := 9) (rm := { frames := 2, cells := 0, slots := 0, locals := 46 }) E hml hl.1 (c_X9_banquet l X 433 (xs (i + nI 1).toNatClampNeg) (xs (i + nI 2).toNatClampNeg) (xs (i + nI 3).toNatClampNeg) σ1 rfl w2) wt_X9_banquet wl_RL_198 rfl rfl (by decide) rfl rfl hM hS rfl rfl (Nat.le_trans (by decide) hRf) (Nat.le_trans (by decide) hRl) (Nat.le_trans (by omega) hRc) (Nat.le_trans (by omega) hRs) (Nat.le_of_ble_eq_true rfl) dL_law_1415 rfl) hO hS (fun H locs hM hO hS => ?_)
  refine lv_istore (lv' := [(7, .int bv), (6, .int (nI cd)), (0, .ref b), (1, .ref (X.1 + 0)), (2, .ref (X.1 + 433)), (3, .ref (X.1 + 440)), (4, .ref (X.1 + 441)), (5, .int i)]) hx hb dL_law_1418 hl (by decide) rfl (fun ls hl => ?_)
  refine lv_aload_n hx hb dL_law_1420 rfl (lv_at hl 4 rfl) ?_
  refine gb_i (gq_V (c0 := 433) (As := []) (ci := 9) (rm := { frames := 0, cells := 0, slots := 0, locals := 0 }) E hml hl.1 (c_X9_thrown l X 433 σ2 rfl (show f_X9_thrown 433 σ2 = some (nI cd, σ2) from congrArg (fun v => some (v, σ2)) w3)) wt_X9_thrown wl_RL_138 rfl rfl (by decide) rfl rfl hM hS rfl rfl (Nat.le_trans (by decide) hRf) (Nat.le_trans (by decide) hRl) (Nat.le_trans (by omega) hRc) (Nat.le_trans (by omega) hRs) (Nat.le_of_ble_eq_true rfl) dL_law_1421 rfl) hO hS (fun H locs hM hO hS => ?_)
  refine lv_iload hx hb dL_law_1424 (lv_at hl 1 rfl) ?_
  refine lv_icmp_eq (tgt := 1431) hx hb dL_law_1426 (by decide) (fun _ => ?_) (fun hne => absurd rfl hne)
  refine lv_iload hx hb dL_law_1431 (lv_at hl 1 rfl) ?_
  have fin : W p l e R s m args below meth c H locs (cells + 1 + 0 + 0) (slots + 6 + 0 + 0) Q (F0 m 1448 ls []) := by
    refine lv_goto (tgt := 2231) hx hb dL_law_1448 (by decide) ?_
    exact kk H locs ls σ2 z1 w _ _ (by decide) (by decide) w4 hM hO hS ⟨hl.1, hl.2.1, fun q hq => hl.2.2 q (List.mem_cons_of_mem _ (List.mem_cons_of_mem _ hq))⟩
  refine lv_if_ne (tgt := 1448) hx hb dL_law_1433 (by decide) (fun _ => fin) (fun h0 => ?_)
  have hcd : cd = 0 := by
    have h1 : nI cd = nI 0 := h0
    rw [p_eq (by omega) (by decide)] at h1; exact h1
  have w7 := w6 hcd
  refine lv_aload_n hx hb dL_law_1436 rfl (lv_at hl 5 rfl) ?_
  refine lv_iconst (v := (0 : Int32)) hx hb dL_law_1437 (by decide) ?_
  refine gl_lld E hO dL_law_1438 ?_
  refine lv_iload hx hb dL_law_1439 (lv_at hl 0 rfl) ?_
  refine lv_i2l (v := bv.toInt64) hx hb dL_law_1441 rfl ?_
  refine lr_lcmp hx hb dL_law_1442 w7 ?_
  exact lv_if_eq (tgt := 1448) hx hb dL_law_1443 (by decide) (fun _ => fin) (fun hne => absurd rfl hne)
set_option maxRecDepth 100000 in
set_option maxHeartbeats 4000000 in
theorem cs_19 {p : Program} {l : Launch} {e : Env} {R : Room} {s : State} {m : MethodId} {args : Array Value} {below : List Frame} {meth : Method} {c : Code} {H : Heap} {locs : List Loc} {ls : Array Slot} {cells slots : Nat} {Q : State → Prop} {X : gX} {z : Nat → Int64} {w : Nat → UInt64} (E : gE2 p s m args c cL_law X) (hml : c.maxLocals = 9) (hl0 : l.stackTraces = false) (hRf : 16 ≤ R.frames) (hRl : 1000 ≤ R.locals) (hRc : cells + 8 ≤ R.cells) (hRs : slots + 48 ≤ R.slots) {b L : Nat} {xs : Nat → Int32} (hXs : va_X b L xs s s.heap) (hbl : b < s.heap.size) (hbA : ¬ gA2 X b) {i : Int32} (hin : ∀ k : Nat, k < 5 → vp_in (i + nI k) L) {N : Nat} {σ : gMem} (hR : RR N σ σ) (hN : N ≤ 900000) (hM : gM X σ H) (hO : gO X z w H) (hS : va_S (gA2 X) s.heap H locs) (hl : lv_has ls 9 [(0, .ref b), (1, .ref (X.1 + 0)), (2, .ref (X.1 + 433)), (3, .ref (X.1 + 440)), (4, .ref (X.1 + 441)), (5, .int i)]) (kk : ∀ (H : Heap) (locs : List Loc) (ls : Array Slot) (σ : gMem) (z : Nat → Int64) (w : Nat → UInt64) (c1 s1 : Nat), c1 ≤ 8 → s1 ≤ 48 → RR (N + 1440) σ σ → gM X σ H → gO X z w H → va_S (gA2 X) s.heap H locs → lv_has ls 9 [(0, .ref b), (1, .ref (X.1 + 0)), (2, .ref (X.1 + 433)), (3, .ref (X.1 + 440)), (4, .ref (X.1 + 441)), (5, .int i)] → W p l e R s m args below meth c H locs (cells + c1) (slots + s1) Q (F0 m 2231 ls [])) : W p l e R s m args below meth c H locs cells slots Q (F0 m 1451 ls []) := by
  obtain ⟨hx, hb⟩ := (⟨E.1.1, E.1.2.1⟩ : _ ∧ _)
  refine lv_aload_n hx hb dL_law_1451 rfl (lv_at hl 1 rfl) ?_
  refine lv_aload_n hx hb dL_law_1452 rfl (lv_at hl 0 rfl) ?_
  refine lv_iload hx hb dL_law_1453 (lv_at hl 5 rfl) ?_
  refine lv_iconst (v := (1 : Int32)) hx hb dL_law_1455 (by decide) ?_
  refine lv_iadd hx hb dL_law_1456 ?_
  refine va_sld hx hb hXs hbl hbA hS (hin 1 (by decide)) dL_law_1457 ?_
  refine lv_aload_n hx hb dL_law_1458 rfl (lv_at hl 0 rfl) ?_
  refine lv_iload hx hb dL_law_1459 (lv_at hl 5 rfl) ?_
  refine lv_iconst (v := (2 : Int32)) hx hb dL_law_1461 (by decide) ?_
  refine lv_iadd hx hb dL_law_1462 ?_
  refine va_sld hx hb hXs hbl hbA hS (hin 2 (by decide)) dL_law_1463 ?_
  refine lv_aload_n hx hb dL_law_1464 rfl (lv_at hl 3 rfl) ?_
  obtain ⟨cd, z1, σ1, bv, σ2, w1, w2, w3, w4, w5, w6⟩ := stp_show (z := z) (w := w) hR hN (xs (i + nI 1).toNatClampNeg) (xs (i + nI 2).toNatClampNeg)
  refine gq_W (n := 4) (As := [.ref (X.1 + 0), .int (xs (i + nI 1).toNatClampNeg), .int (xs (i + nI 2).toNatClampNeg), .ref (X.1 + 440)]) E hml hl.1 (cw_show l X hl0 (xs (i + nI 1).toNatClampNeg) (xs (i + nI 2).toNatClampNeg) z w σ w1) wlw_show_s wlw_ini wlw_show_c (by decide +kernel) wlL_199 rfl hM hO hS rfl rfl (Nat.le_trans (by decide) hRf) (Nat.le_trans (by decide) hRl) (Nat.le_trans (by omega) hRc) (Nat.le_trans (by omega) hRs) (Nat.le_of_ble_eq_true rfl) dL_law_1465 rfl (fun H locs hM hO hS => ?_)
  refine lv_istore (lv' := [(6, .int (nI cd)), (0, .ref b), (1, .ref (X.1 + 0)), (2, .ref (X.1 + 433)), (3, .ref (X.1 + 440)), (4, .ref (X.1 + 441)), (5, .int i)]) hx hb dL_law_1468 hl (by decide) rfl (fun ls hl => ?_)
  refine lv_aload_n hx hb dL_law_1470 rfl (lv_at hl 3 rfl) ?_
  refine lv_aload_n hx hb dL_law_1471 rfl (lv_at hl 1 rfl) ?_
  refine lv_iload hx hb dL_law_1472 (lv_at hl 6 rfl) ?_
  refine lv_iconst (v := (1 : Int32)) hx hb dL_law_1474 (by decide) ?_
  refine lv_iadd hx hb dL_law_1475 ?_
  refine va_sld hx hb hXs hbl hbA hS (hin 1 (by decide)) dL_law_1476 ?_
  refine lv_aload_n hx hb dL_law_1477 rfl (lv_at hl 1 rfl) ?_
  refine lv_iload hx hb dL_law_1478 (lv_at hl 6 rfl) ?_
  refine lv_iconst (v := (2 : Int32)) hx hb dL_law_1480 (by decide) ?_
  refine lv_iadd hx hb dL_law_1481 ?_
  refine va_sld hx hb hXs hbl hbA hS (hin 2 (by decide)) dL_law_1482 ?_
  refine gb_i (gq_V (c0 := 433) (As := [.int (xs (i + nI 1).toNatClampNeg), .int (xs (i + nI 2).toNatClampNeg)]) (ci := 9) (rm := { frames := 3, cells := 0, slots := 0, locals := 66 }) E hml hl.1 (c_X9_show l X 433 (xs (i + nI 1).toNatClampNeg) (xs (i + nI 2).toNatClampNeg) σ1 rfl w2) wt_X9_show wl_RL_201 rfl rfl (by decide) rfl rfl hM hS rfl rfl (Nat.le_trans (by decide) hRf) (Nat.le_trans (by decide) hRl) (Nat.le_trans (by omega) hRc) (Nat.le_trans (by omega) hRs) (Nat.le_of_ble_eq_true rfl) dL_law_1483 rfl) hO hS (fun H locs hM hO hS => ?_)
  refine lv_istore (lv' := [(7, .int bv), (6, .int (nI cd)), (0, .ref b), (1, .ref (X.1 + 0)), (2, .ref (X.1 + 433)), (3, .ref (X.1 + 440)), (4, .ref (X.1 + 441)), (5, .int i)]) hx hb dL_law_1486 hl (by decide) rfl (fun ls hl => ?_)
  refine lv_aload_n hx hb dL_law_1488 rfl (lv_at hl 4 rfl) ?_
  refine gb_i (gq_V (c0 := 433) (As := []) (ci := 9) (rm := { frames := 0, cells := 0, slots := 0, locals := 0 }) E hml hl.1 (c_X9_thrown l X 433 σ2 rfl (show f_X9_thrown 433 σ2 = some (nI cd, σ2) from congrArg (fun v => some (v, σ2)) w3)) wt_X9_thrown wl_RL_138 rfl rfl (by decide) rfl rfl hM hS rfl rfl (Nat.le_trans (by decide) hRf) (Nat.le_trans (by decide) hRl) (Nat.le_trans (by omega) hRc) (Nat.le_trans (by omega) hRs) (Nat.le_of_ble_eq_true rfl) dL_law_1489 rfl) hO hS (fun H locs hM hO hS => ?_)
  refine lv_iload hx hb dL_law_1492 (lv_at hl 1 rfl) ?_
  refine lv_icmp_eq (tgt := 1499) hx hb dL_law_1494 (by decide) (fun _ => ?_) (fun hne => absurd rfl hne)
  refine lv_iload hx hb dL_law_1499 (lv_at hl 1 rfl) ?_
  have fin : W p l e R s m args below meth c H locs (cells + 2 + 0 + 0) (slots + 12 + 0 + 0) Q (F0 m 1516 ls []) := by
    refine lv_goto (tgt := 2231) hx hb dL_law_1516 (by decide) ?_
    exact kk H locs ls σ2 z1 w _ _ (by decide) (by decide) w4 hM hO hS ⟨hl.1, hl.2.1, fun q hq => hl.2.2 q (List.mem_cons_of_mem _ (List.mem_cons_of_mem _ hq))⟩
  refine lv_if_ne (tgt := 1516) hx hb dL_law_1501 (by decide) (fun _ => fin) (fun h0 => ?_)
  have hcd : cd = 0 := by
    have h1 : nI cd = nI 0 := h0
    rw [p_eq (by omega) (by decide)] at h1; exact h1
  have w7 := w6 hcd
  refine lv_aload_n hx hb dL_law_1504 rfl (lv_at hl 5 rfl) ?_
  refine lv_iconst (v := (0 : Int32)) hx hb dL_law_1505 (by decide) ?_
  refine gl_lld E hO dL_law_1506 ?_
  refine lv_iload hx hb dL_law_1507 (lv_at hl 0 rfl) ?_
  refine lv_i2l (v := bv.toInt64) hx hb dL_law_1509 rfl ?_
  refine lr_lcmp hx hb dL_law_1510 w7 ?_
  exact lv_if_eq (tgt := 1516) hx hb dL_law_1511 (by decide) (fun _ => fin) (fun hne => absurd rfl hne)
set_option maxRecDepth 100000 in
set_option maxHeartbeats 4000000 in
theorem cs_20 {p : Program} {l : Launch} {e : Env} {R : Room} {s : State} {m : MethodId} {args : Array Value} {below : List Frame} {meth : Method} {c : Code} {H : Heap} {locs : List Loc} {ls : Array Slot} {cells slots : Nat} {Q : State → Prop} {X : gX} {z : Nat → Int64} {w : Nat → UInt64} (E : gE2 p s m args c cL_law X) (hml : c.maxLocals = 9) (hl0 : l.stackTraces = false) (hRf : 16 ≤ R.frames) (hRl : 1000 ≤ R.locals) (hRc : cells + 8 ≤ R.cells) (hRs : slots + 48 ≤ R.slots) {b L : Nat} {xs : Nat → Int32} (hXs : va_X b L xs s s.heap) (hbl : b < s.heap.size) (hbA : ¬ gA2 X b) {i : Int32} (hin : ∀ k : Nat, k < 5 → vp_in (i + nI k) L) {N : Nat} {σ : gMem} (hR : RR N σ σ) (hN : N ≤ 900000) (hM : gM X σ H) (hO : gO X z w H) (hS : va_S (gA2 X) s.heap H locs) (hl : lv_has ls 9 [(0, .ref b), (1, .ref (X.1 + 0)), (2, .ref (X.1 + 433)), (3, .ref (X.1 + 440)), (4, .ref (X.1 + 441)), (5, .int i)]) (kk : ∀ (H : Heap) (locs : List Loc) (ls : Array Slot) (σ : gMem) (z : Nat → Int64) (w : Nat → UInt64) (c1 s1 : Nat), c1 ≤ 8 → s1 ≤ 48 → RR (N + 1440) σ σ → gM X σ H → gO X z w H → va_S (gA2 X) s.heap H locs → lv_has ls 9 [(0, .ref b), (1, .ref (X.1 + 0)), (2, .ref (X.1 + 433)), (3, .ref (X.1 + 440)), (4, .ref (X.1 + 441)), (5, .int i)] → W p l e R s m args below meth c H locs (cells + c1) (slots + s1) Q (F0 m 2231 ls [])) : W p l e R s m args below meth c H locs cells slots Q (F0 m 1519 ls []) := by
  obtain ⟨hx, hb⟩ := (⟨E.1.1, E.1.2.1⟩ : _ ∧ _)
  refine lv_aload_n hx hb dL_law_1519 rfl (lv_at hl 1 rfl) ?_
  refine lv_aload_n hx hb dL_law_1520 rfl (lv_at hl 0 rfl) ?_
  refine lv_iload hx hb dL_law_1521 (lv_at hl 5 rfl) ?_
  refine lv_iconst (v := (1 : Int32)) hx hb dL_law_1523 (by decide) ?_
  refine lv_iadd hx hb dL_law_1524 ?_
  refine va_sld hx hb hXs hbl hbA hS (hin 1 (by decide)) dL_law_1525 ?_
  refine lv_aload_n hx hb dL_law_1526 rfl (lv_at hl 3 rfl) ?_
  obtain ⟨cd, z1, σ1, bv, σ2, w1, w2, w3, w4, w5, w6⟩ := stp_cancel (z := z) (w := w) hR hN (xs (i + nI 1).toNatClampNeg)
  refine gq_W (n := 3) (As := [.ref (X.1 + 0), .int (xs (i + nI 1).toNatClampNeg), .ref (X.1 + 440)]) E hml hl.1 (cw_cancel l X hl0 (xs (i + nI 1).toNatClampNeg) z w σ w1) wlw_cancel_s wlw_ini wlw_cancel_c (by decide +kernel) wlL_202 rfl hM hO hS rfl rfl (Nat.le_trans (by decide) hRf) (Nat.le_trans (by decide) hRl) (Nat.le_trans (by omega) hRc) (Nat.le_trans (by omega) hRs) (Nat.le_of_ble_eq_true rfl) dL_law_1527 rfl (fun H locs hM hO hS => ?_)
  refine lv_istore (lv' := [(6, .int (nI cd)), (0, .ref b), (1, .ref (X.1 + 0)), (2, .ref (X.1 + 433)), (3, .ref (X.1 + 440)), (4, .ref (X.1 + 441)), (5, .int i)]) hx hb dL_law_1530 hl (by decide) rfl (fun ls hl => ?_)
  refine lv_aload_n hx hb dL_law_1532 rfl (lv_at hl 3 rfl) ?_
  refine lv_aload_n hx hb dL_law_1533 rfl (lv_at hl 1 rfl) ?_
  refine lv_iload hx hb dL_law_1534 (lv_at hl 6 rfl) ?_
  refine lv_iconst (v := (1 : Int32)) hx hb dL_law_1536 (by decide) ?_
  refine lv_iadd hx hb dL_law_1537 ?_
  refine va_sld hx hb hXs hbl hbA hS (hin 1 (by decide)) dL_law_1538 ?_
  refine gb_i (gq_V (c0 := 433) (As := [.int (xs (i + nI 1).toNatClampNeg)]) (ci := 9) (rm := { frames := 2, cells := 0, slots := 0, locals := 46 }) E hml hl.1 (c_X9_cancel l X 433 (xs (i + nI 1).toNatClampNeg) σ1 rfl w2) wt_X9_cancel wl_RL_204 rfl rfl (by decide) rfl rfl hM hS rfl rfl (Nat.le_trans (by decide) hRf) (Nat.le_trans (by decide) hRl) (Nat.le_trans (by omega) hRc) (Nat.le_trans (by omega) hRs) (Nat.le_of_ble_eq_true rfl) dL_law_1539 rfl) hO hS (fun H locs hM hO hS => ?_)
  refine lv_istore (lv' := [(7, .int bv), (6, .int (nI cd)), (0, .ref b), (1, .ref (X.1 + 0)), (2, .ref (X.1 + 433)), (3, .ref (X.1 + 440)), (4, .ref (X.1 + 441)), (5, .int i)]) hx hb dL_law_1542 hl (by decide) rfl (fun ls hl => ?_)
  refine lv_aload_n hx hb dL_law_1544 rfl (lv_at hl 4 rfl) ?_
  refine gb_i (gq_V (c0 := 433) (As := []) (ci := 9) (rm := { frames := 0, cells := 0, slots := 0, locals := 0 }) E hml hl.1 (c_X9_thrown l X 433 σ2 rfl (show f_X9_thrown 433 σ2 = some (nI cd, σ2) from congrArg (fun v => some (v, σ2)) w3)) wt_X9_thrown wl_RL_138 rfl rfl (by decide) rfl rfl hM hS rfl rfl (Nat.le_trans (by decide) hRf) (Nat.le_trans (by decide) hRl) (Nat.le_trans (by omega) hRc) (Nat.le_trans (by omega) hRs) (Nat.le_of_ble_eq_true rfl) dL_law_1545 rfl) hO hS (fun H locs hM hO hS => ?_)
  refine lv_iload hx hb dL_law_1548 (lv_at hl 1 rfl) ?_
  refine lv_icmp_eq (tgt := 1555) hx hb dL_law_1550 (by decide) (fun _ => ?_) (fun hne => absurd rfl hne)
  refine lv_iload hx hb dL_law_1555 (lv_at hl 1 rfl) ?_
  have fin : W p l e R s m args below meth c H locs (cells + 1 + 0 + 0) (slots + 6 + 0 + 0) Q (F0 m 1572 ls []) := by
    refine lv_goto (tgt := 2231) hx hb dL_law_1572 (by decide) ?_
    exact kk H locs ls σ2 z1 w _ _ (by decide) (by decide) w4 hM hO hS ⟨hl.1, hl.2.1, fun q hq => hl.2.2 q (List.mem_cons_of_mem _ (List.mem_cons_of_mem _ hq))⟩
  refine lv_if_ne (tgt := 1572) hx hb dL_law_1557 (by decide) (fun _ => fin) (fun h0 => ?_)
  have hcd : cd = 0 := by
    have h1 : nI cd = nI 0 := h0
    rw [p_eq (by omega) (by decide)] at h1; exact h1
  have w7 := w6 hcd
  refine lv_aload_n hx hb dL_law_1560 rfl (lv_at hl 5 rfl) ?_
  refine lv_iconst (v := (0 : Int32)) hx hb dL_law_1561 (by decide) ?_
  refine gl_lld E hO dL_law_1562 ?_
  refine lv_iload hx hb dL_law_1563 (lv_at hl 0 rfl) ?_
  refine lv_i2l (v := bv.toInt64) hx hb dL_law_1565 rfl ?_
  refine lr_lcmp hx hb dL_law_1566 w7 ?_
  exact lv_if_eq (tgt := 1572) hx hb dL_law_1567 (by decide) (fun _ => fin) (fun hne => absurd rfl hne)
set_option maxRecDepth 100000 in
set_option maxHeartbeats 4000000 in
theorem cs_21 {p : Program} {l : Launch} {e : Env} {R : Room} {s : State} {m : MethodId} {args : Array Value} {below : List Frame} {meth : Method} {c : Code} {H : Heap} {locs : List Loc} {ls : Array Slot} {cells slots : Nat} {Q : State → Prop} {X : gX} {z : Nat → Int64} {w : Nat → UInt64} (E : gE2 p s m args c cL_law X) (hml : c.maxLocals = 9) (hl0 : l.stackTraces = false) (hRf : 16 ≤ R.frames) (hRl : 1000 ≤ R.locals) (hRc : cells + 8 ≤ R.cells) (hRs : slots + 48 ≤ R.slots) {b L : Nat} {xs : Nat → Int32} (hXs : va_X b L xs s s.heap) (hbl : b < s.heap.size) (hbA : ¬ gA2 X b) {i : Int32} (hin : ∀ k : Nat, k < 5 → vp_in (i + nI k) L) {N : Nat} {σ : gMem} (hR : RR N σ σ) (hN : N ≤ 900000) (hM : gM X σ H) (hO : gO X z w H) (hS : va_S (gA2 X) s.heap H locs) (hl : lv_has ls 9 [(0, .ref b), (1, .ref (X.1 + 0)), (2, .ref (X.1 + 433)), (3, .ref (X.1 + 440)), (4, .ref (X.1 + 441)), (5, .int i)]) (kk : ∀ (H : Heap) (locs : List Loc) (ls : Array Slot) (σ : gMem) (z : Nat → Int64) (w : Nat → UInt64) (c1 s1 : Nat), c1 ≤ 8 → s1 ≤ 48 → RR (N + 1440) σ σ → gM X σ H → gO X z w H → va_S (gA2 X) s.heap H locs → lv_has ls 9 [(0, .ref b), (1, .ref (X.1 + 0)), (2, .ref (X.1 + 433)), (3, .ref (X.1 + 440)), (4, .ref (X.1 + 441)), (5, .int i)] → W p l e R s m args below meth c H locs (cells + c1) (slots + s1) Q (F0 m 2231 ls [])) : W p l e R s m args below meth c H locs cells slots Q (F0 m 1575 ls []) := by
  obtain ⟨hx, hb⟩ := (⟨E.1.1, E.1.2.1⟩ : _ ∧ _)
  refine lv_aload_n hx hb dL_law_1575 rfl (lv_at hl 1 rfl) ?_
  refine lv_aload_n hx hb dL_law_1576 rfl (lv_at hl 0 rfl) ?_
  refine lv_iload hx hb dL_law_1577 (lv_at hl 5 rfl) ?_
  refine lv_iconst (v := (1 : Int32)) hx hb dL_law_1579 (by decide) ?_
  refine lv_iadd hx hb dL_law_1580 ?_
  refine va_sld hx hb hXs hbl hbA hS (hin 1 (by decide)) dL_law_1581 ?_
  refine lv_aload_n hx hb dL_law_1582 rfl (lv_at hl 0 rfl) ?_
  refine lv_iload hx hb dL_law_1583 (lv_at hl 5 rfl) ?_
  refine lv_iconst (v := (2 : Int32)) hx hb dL_law_1585 (by decide) ?_
  refine lv_iadd hx hb dL_law_1586 ?_
  refine va_sld hx hb hXs hbl hbA hS (hin 2 (by decide)) dL_law_1587 ?_
  refine lv_aload_n hx hb dL_law_1588 rfl (lv_at hl 3 rfl) ?_
  obtain ⟨cd, z1, σ1, bv, σ2, w1, w2, w3, w4, w5, w6⟩ := stp_banquetOf (z := z) (w := w) hR hN (xs (i + nI 1).toNatClampNeg) (xs (i + nI 2).toNatClampNeg)
  refine gq_W (n := 4) (As := [.ref (X.1 + 0), .int (xs (i + nI 1).toNatClampNeg), .int (xs (i + nI 2).toNatClampNeg), .ref (X.1 + 440)]) E hml hl.1 (cw_banquetOf l X hl0 (xs (i + nI 1).toNatClampNeg) (xs (i + nI 2).toNatClampNeg) z w σ w1) wlw_banquetOf_s wlw_ini wlw_banquetOf_c (by decide +kernel) wlL_205 rfl hM hO hS rfl rfl (Nat.le_trans (by decide) hRf) (Nat.le_trans (by decide) hRl) (Nat.le_trans (by omega) hRc) (Nat.le_trans (by omega) hRs) (Nat.le_of_ble_eq_true rfl) dL_law_1589 rfl (fun H locs hM hO hS => ?_)
  refine lv_istore (lv' := [(6, .int (nI cd)), (0, .ref b), (1, .ref (X.1 + 0)), (2, .ref (X.1 + 433)), (3, .ref (X.1 + 440)), (4, .ref (X.1 + 441)), (5, .int i)]) hx hb dL_law_1592 hl (by decide) rfl (fun ls hl => ?_)
  refine lv_aload_n hx hb dL_law_1594 rfl (lv_at hl 3 rfl) ?_
  refine lv_aload_n hx hb dL_law_1595 rfl (lv_at hl 1 rfl) ?_
  refine lv_iload hx hb dL_law_1596 (lv_at hl 6 rfl) ?_
  refine lv_iconst (v := (1 : Int32)) hx hb dL_law_1598 (by decide) ?_
  refine lv_iadd hx hb dL_law_1599 ?_
  refine va_sld hx hb hXs hbl hbA hS (hin 1 (by decide)) dL_law_1600 ?_
  refine lv_aload_n hx hb dL_law_1601 rfl (lv_at hl 1 rfl) ?_
  refine lv_iload hx hb dL_law_1602 (lv_at hl 6 rfl) ?_
  refine lv_iconst (v := (2 : Int32)) hx hb dL_law_1604 (by decide) ?_
  refine lv_iadd hx hb dL_law_1605 ?_
  refine va_sld hx hb hXs hbl hbA hS (hin 2 (by decide)) dL_law_1606 ?_
  refine gb_i (gq_V (c0 := 433) (As := [.int (xs (i + nI 1).toNatClampNeg), .int (xs (i + nI 2).toNatClampNeg)]) (ci := 9) (rm := { frames := 1, cells := 0, slots := 0, locals := 22 }) E hml hl.1 (c_X9_banquetOf l X 433 (xs (i + nI 1).toNatClampNeg) (xs (i + nI 2).toNatClampNeg) σ1 rfl w2) wt_X9_banquetOf wl_RL_207 rfl rfl (by decide) rfl rfl hM hS rfl rfl (Nat.le_trans (by decide) hRf) (Nat.le_trans (by decide) hRl) (Nat.le_trans (by omega) hRc) (Nat.le_trans (by omega) hRs) (Nat.le_of_ble_eq_true rfl) dL_law_1607 rfl) hO hS (fun H locs hM hO hS => ?_)
  refine lv_istore (lv' := [(7, .int bv), (6, .int (nI cd)), (0, .ref b), (1, .ref (X.1 + 0)), (2, .ref (X.1 + 433)), (3, .ref (X.1 + 440)), (4, .ref (X.1 + 441)), (5, .int i)]) hx hb dL_law_1610 hl (by decide) rfl (fun ls hl => ?_)
  refine lv_aload_n hx hb dL_law_1612 rfl (lv_at hl 4 rfl) ?_
  refine gb_i (gq_V (c0 := 433) (As := []) (ci := 9) (rm := { frames := 0, cells := 0, slots := 0, locals := 0 }) E hml hl.1 (c_X9_thrown l X 433 σ2 rfl (show f_X9_thrown 433 σ2 = some (nI cd, σ2) from congrArg (fun v => some (v, σ2)) w3)) wt_X9_thrown wl_RL_138 rfl rfl (by decide) rfl rfl hM hS rfl rfl (Nat.le_trans (by decide) hRf) (Nat.le_trans (by decide) hRl) (Nat.le_trans (by omega) hRc) (Nat.le_trans (by omega) hRs) (Nat.le_of_ble_eq_true rfl) dL_law_1613 rfl) hO hS (fun H locs hM hO hS => ?_)
  refine lv_iload hx hb dL_law_1616 (lv_at hl 1 rfl) ?_
  refine lv_icmp_eq (tgt := 1623) hx hb dL_law_1618 (by decide) (fun _ => ?_) (fun hne => absurd rfl hne)
  refine lv_iload hx hb dL_law_1623 (lv_at hl 1 rfl) ?_
  have fin : W p l e R s m args below meth c H locs (cells + 2 + 0 + 0) (slots + 12 + 0 + 0) Q (F0 m 1640 ls []) := by
    refine lv_goto (tgt := 2231) hx hb dL_law_1640 (by decide) ?_
    exact kk H locs ls σ2 z1 w _ _ (by decide) (by decide) w4 hM hO hS ⟨hl.1, hl.2.1, fun q hq => hl.2.2 q (List.mem_cons_of_mem _ (List.mem_cons_of_mem _ hq))⟩
  refine lv_if_ne (tgt := 1640) hx hb dL_law_1625 (by decide) (fun _ => fin) (fun h0 => ?_)
  have hcd : cd = 0 := by
    have h1 : nI cd = nI 0 := h0
    rw [p_eq (by omega) (by decide)] at h1; exact h1
  have w7 := w6 hcd
  refine lv_aload_n hx hb dL_law_1628 rfl (lv_at hl 5 rfl) ?_
  refine lv_iconst (v := (0 : Int32)) hx hb dL_law_1629 (by decide) ?_
  refine gl_lld E hO dL_law_1630 ?_
  refine lv_iload hx hb dL_law_1631 (lv_at hl 0 rfl) ?_
  refine lv_i2l (v := bv.toInt64) hx hb dL_law_1633 rfl ?_
  refine lr_lcmp hx hb dL_law_1634 w7 ?_
  exact lv_if_eq (tgt := 1640) hx hb dL_law_1635 (by decide) (fun _ => fin) (fun hne => absurd rfl hne)
set_option maxRecDepth 100000 in
set_option maxHeartbeats 4000000 in
theorem cs_22 {p : Program} {l : Launch} {e : Env} {R : Room} {s : State} {m : MethodId} {args : Array Value} {below : List Frame} {meth : Method} {c : Code} {H : Heap} {locs : List Loc} {ls : Array Slot} {cells slots : Nat} {Q : State → Prop} {X : gX} {z : Nat → Int64} {w : Nat → UInt64} (E : gE2 p s m args c cL_law X) (hml : c.maxLocals = 9) (hl0 : l.stackTraces = false) (hRf : 16 ≤ R.frames) (hRl : 1000 ≤ R.locals) (hRc : cells + 8 ≤ R.cells) (hRs : slots + 48 ≤ R.slots) {b L : Nat} {xs : Nat → Int32} (hXs : va_X b L xs s s.heap) (hbl : b < s.heap.size) (hbA : ¬ gA2 X b) {i : Int32} (hin : ∀ k : Nat, k < 5 → vp_in (i + nI k) L) {N : Nat} {σ : gMem} (hR : RR N σ σ) (hN : N ≤ 900000) (hM : gM X σ H) (hO : gO X z w H) (hS : va_S (gA2 X) s.heap H locs) (hl : lv_has ls 9 [(0, .ref b), (1, .ref (X.1 + 0)), (2, .ref (X.1 + 433)), (3, .ref (X.1 + 440)), (4, .ref (X.1 + 441)), (5, .int i)]) (kk : ∀ (H : Heap) (locs : List Loc) (ls : Array Slot) (σ : gMem) (z : Nat → Int64) (w : Nat → UInt64) (c1 s1 : Nat), c1 ≤ 8 → s1 ≤ 48 → RR (N + 1440) σ σ → gM X σ H → gO X z w H → va_S (gA2 X) s.heap H locs → lv_has ls 9 [(0, .ref b), (1, .ref (X.1 + 0)), (2, .ref (X.1 + 433)), (3, .ref (X.1 + 440)), (4, .ref (X.1 + 441)), (5, .int i)] → W p l e R s m args below meth c H locs (cells + c1) (slots + s1) Q (F0 m 2231 ls [])) : W p l e R s m args below meth c H locs cells slots Q (F0 m 1643 ls []) := by
  obtain ⟨hx, hb⟩ := (⟨E.1.1, E.1.2.1⟩ : _ ∧ _)
  refine lv_aload_n hx hb dL_law_1643 rfl (lv_at hl 1 rfl) ?_
  refine lv_aload_n hx hb dL_law_1644 rfl (lv_at hl 3 rfl) ?_
  obtain ⟨cd, z1, σ1, bv, σ2, w1, w2, w3, w4, w5, w6⟩ := stp_next (z := z) (w := w) hR hN 
  refine gq_W (n := 2) (As := [.ref (X.1 + 0), .ref (X.1 + 440)]) E hml hl.1 (cw_next l X hl0  z w σ w1) wlw_next_s wlw_ini wlw_next_c (by decide +kernel) wlL_208 rfl hM hO hS rfl rfl (Nat.le_trans (by decide) hRf) (Nat.le_trans (by decide) hRl) (Nat.le_trans (by omega) hRc) (Nat.le_trans (by omega) hRs) (Nat.le_of_ble_eq_true rfl) dL_law_1645 rfl (fun H locs hM hO hS => ?_)
  refine lv_istore (lv' := [(6, .int (nI cd)), (0, .ref b), (1, .ref (X.1 + 0)), (2, .ref (X.1 + 433)), (3, .ref (X.1 + 440)), (4, .ref (X.1 + 441)), (5, .int i)]) hx hb dL_law_1648 hl (by decide) rfl (fun ls hl => ?_)
  refine lv_aload_n hx hb dL_law_1650 rfl (lv_at hl 3 rfl) ?_
  refine gb_i (gq_V (c0 := 433) (As := []) (ci := 9) (rm := { frames := 1, cells := 0, slots := 0, locals := 21 }) E hml hl.1 (c_X9_next l X 433  σ1 rfl w2) wt_X9_next wl_RL_210 rfl rfl (by decide) rfl rfl hM hS rfl rfl (Nat.le_trans (by decide) hRf) (Nat.le_trans (by decide) hRl) (Nat.le_trans (by omega) hRc) (Nat.le_trans (by omega) hRs) (Nat.le_of_ble_eq_true rfl) dL_law_1651 rfl) hO hS (fun H locs hM hO hS => ?_)
  refine lv_istore (lv' := [(7, .int bv), (6, .int (nI cd)), (0, .ref b), (1, .ref (X.1 + 0)), (2, .ref (X.1 + 433)), (3, .ref (X.1 + 440)), (4, .ref (X.1 + 441)), (5, .int i)]) hx hb dL_law_1654 hl (by decide) rfl (fun ls hl => ?_)
  refine lv_aload_n hx hb dL_law_1656 rfl (lv_at hl 4 rfl) ?_
  refine gb_i (gq_V (c0 := 433) (As := []) (ci := 9) (rm := { frames := 0, cells := 0, slots := 0, locals := 0 }) E hml hl.1 (c_X9_thrown l X 433 σ2 rfl (show f_X9_thrown 433 σ2 = some (nI cd, σ2) from congrArg (fun v => some (v, σ2)) w3)) wt_X9_thrown wl_RL_138 rfl rfl (by decide) rfl rfl hM hS rfl rfl (Nat.le_trans (by decide) hRf) (Nat.le_trans (by decide) hRl) (Nat.le_trans (by omega) hRc) (Nat.le_trans (by omega) hRs) (Nat.le_of_ble_eq_true rfl) dL_law_1657 rfl) hO hS (fun H locs hM hO hS => ?_)
  refine lv_iload hx hb dL_law_1660 (lv_at hl 1 rfl) ?_
  refine lv_icmp_eq (tgt := 1667) hx hb dL_law_1662 (by decide) (fun _ => ?_) (fun hne => absurd rfl hne)
  refine lv_iload hx hb dL_law_1667 (lv_at hl 1 rfl) ?_
  have fin : W p l e R s m args below meth c H locs (cells + 1 + 0 + 0) (slots + 6 + 0 + 0) Q (F0 m 1684 ls []) := by
    refine lv_goto (tgt := 2231) hx hb dL_law_1684 (by decide) ?_
    exact kk H locs ls σ2 z1 w _ _ (by decide) (by decide) w4 hM hO hS ⟨hl.1, hl.2.1, fun q hq => hl.2.2 q (List.mem_cons_of_mem _ (List.mem_cons_of_mem _ hq))⟩
  refine lv_if_ne (tgt := 1684) hx hb dL_law_1669 (by decide) (fun _ => fin) (fun h0 => ?_)
  have hcd : cd = 0 := by
    have h1 : nI cd = nI 0 := h0
    rw [p_eq (by omega) (by decide)] at h1; exact h1
  have w7 := w6 hcd
  refine lv_aload_n hx hb dL_law_1672 rfl (lv_at hl 5 rfl) ?_
  refine lv_iconst (v := (0 : Int32)) hx hb dL_law_1673 (by decide) ?_
  refine gl_lld E hO dL_law_1674 ?_
  refine lv_iload hx hb dL_law_1675 (lv_at hl 0 rfl) ?_
  refine lv_i2l (v := bv.toInt64) hx hb dL_law_1677 rfl ?_
  refine lr_lcmp hx hb dL_law_1678 w7 ?_
  exact lv_if_eq (tgt := 1684) hx hb dL_law_1679 (by decide) (fun _ => fin) (fun hne => absurd rfl hne)
set_option maxRecDepth 100000 in
set_option maxHeartbeats 4000000 in
theorem cs_23 {p : Program} {l : Launch} {e : Env} {R : Room} {s : State} {m : MethodId} {args : Array Value} {below : List Frame} {meth : Method} {c : Code} {H : Heap} {locs : List Loc} {ls : Array Slot} {cells slots : Nat} {Q : State → Prop} {X : gX} {z : Nat → Int64} {w : Nat → UInt64} (E : gE2 p s m args c cL_law X) (hml : c.maxLocals = 9) (hl0 : l.stackTraces = false) (hRf : 16 ≤ R.frames) (hRl : 1000 ≤ R.locals) (hRc : cells + 8 ≤ R.cells) (hRs : slots + 48 ≤ R.slots) {b L : Nat} {xs : Nat → Int32} (hXs : va_X b L xs s s.heap) (hbl : b < s.heap.size) (hbA : ¬ gA2 X b) {i : Int32} (hin : ∀ k : Nat, k < 5 → vp_in (i + nI k) L) {N : Nat} {σ : gMem} (hR : RR N σ σ) (hN : N ≤ 900000) (hM : gM X σ H) (hO : gO X z w H) (hS : va_S (gA2 X) s.heap H locs) (hl : lv_has ls 9 [(0, .ref b), (1, .ref (X.1 + 0)), (2, .ref (X.1 + 433)), (3, .ref (X.1 + 440)), (4, .ref (X.1 + 441)), (5, .int i)]) (kk : ∀ (H : Heap) (locs : List Loc) (ls : Array Slot) (σ : gMem) (z : Nat → Int64) (w : Nat → UInt64) (c1 s1 : Nat), c1 ≤ 8 → s1 ≤ 48 → RR (N + 1440) σ σ → gM X σ H → gO X z w H → va_S (gA2 X) s.heap H locs → lv_has ls 9 [(0, .ref b), (1, .ref (X.1 + 0)), (2, .ref (X.1 + 433)), (3, .ref (X.1 + 440)), (4, .ref (X.1 + 441)), (5, .int i)] → W p l e R s m args below meth c H locs (cells + c1) (slots + s1) Q (F0 m 2231 ls [])) : W p l e R s m args below meth c H locs cells slots Q (F0 m 1687 ls []) := by
  obtain ⟨hx, hb⟩ := (⟨E.1.1, E.1.2.1⟩ : _ ∧ _)
  refine lv_aload_n hx hb dL_law_1687 rfl (lv_at hl 1 rfl) ?_
  refine lv_aload_n hx hb dL_law_1688 rfl (lv_at hl 0 rfl) ?_
  refine lv_iload hx hb dL_law_1689 (lv_at hl 5 rfl) ?_
  refine lv_iconst (v := (1 : Int32)) hx hb dL_law_1691 (by decide) ?_
  refine lv_iadd hx hb dL_law_1692 ?_
  refine va_sld hx hb hXs hbl hbA hS (hin 1 (by decide)) dL_law_1693 ?_
  refine lv_aload_n hx hb dL_law_1694 rfl (lv_at hl 3 rfl) ?_
  obtain ⟨cd, z1, σ1, bv, σ2, w1, w2, w3, w4, w5, w6⟩ := stp_pass (z := z) (w := w) hR hN (xs (i + nI 1).toNatClampNeg)
  refine gq_W (n := 3) (As := [.ref (X.1 + 0), .int (xs (i + nI 1).toNatClampNeg), .ref (X.1 + 440)]) E hml hl.1 (cw_pass l X hl0 (xs (i + nI 1).toNatClampNeg) z w σ w1) wlw_pass_s wlw_ini wlw_pass_c (by decide +kernel) wlL_211 rfl hM hO hS rfl rfl (Nat.le_trans (by decide) hRf) (Nat.le_trans (by decide) hRl) (Nat.le_trans (by omega) hRc) (Nat.le_trans (by omega) hRs) (Nat.le_of_ble_eq_true rfl) dL_law_1695 rfl (fun H locs hM hO hS => ?_)
  refine lv_istore (lv' := [(6, .int (nI cd)), (0, .ref b), (1, .ref (X.1 + 0)), (2, .ref (X.1 + 433)), (3, .ref (X.1 + 440)), (4, .ref (X.1 + 441)), (5, .int i)]) hx hb dL_law_1698 hl (by decide) rfl (fun ls hl => ?_)
  refine lv_aload_n hx hb dL_law_1700 rfl (lv_at hl 3 rfl) ?_
  refine lv_aload_n hx hb dL_law_1701 rfl (lv_at hl 1 rfl) ?_
  refine lv_iload hx hb dL_law_1702 (lv_at hl 6 rfl) ?_
  refine lv_iconst (v := (1 : Int32)) hx hb dL_law_1704 (by decide) ?_
  refine lv_iadd hx hb dL_law_1705 ?_
  refine va_sld hx hb hXs hbl hbA hS (hin 1 (by decide)) dL_law_1706 ?_
  refine gb_i (gq_V (c0 := 433) (As := [.int (xs (i + nI 1).toNatClampNeg)]) (ci := 9) (rm := { frames := 6, cells := 0, slots := 0, locals := 138 }) E hml hl.1 (c_X9_pass l X 433 (xs (i + nI 1).toNatClampNeg) σ1 rfl w2) wt_X9_pass wl_RL_213 rfl rfl (by decide) rfl rfl hM hS rfl rfl (Nat.le_trans (by decide) hRf) (Nat.le_trans (by decide) hRl) (Nat.le_trans (by omega) hRc) (Nat.le_trans (by omega) hRs) (Nat.le_of_ble_eq_true rfl) dL_law_1707 rfl) hO hS (fun H locs hM hO hS => ?_)
  refine lv_istore (lv' := [(7, .int bv), (6, .int (nI cd)), (0, .ref b), (1, .ref (X.1 + 0)), (2, .ref (X.1 + 433)), (3, .ref (X.1 + 440)), (4, .ref (X.1 + 441)), (5, .int i)]) hx hb dL_law_1710 hl (by decide) rfl (fun ls hl => ?_)
  refine lv_aload_n hx hb dL_law_1712 rfl (lv_at hl 4 rfl) ?_
  refine gb_i (gq_V (c0 := 433) (As := []) (ci := 9) (rm := { frames := 0, cells := 0, slots := 0, locals := 0 }) E hml hl.1 (c_X9_thrown l X 433 σ2 rfl (show f_X9_thrown 433 σ2 = some (nI cd, σ2) from congrArg (fun v => some (v, σ2)) w3)) wt_X9_thrown wl_RL_138 rfl rfl (by decide) rfl rfl hM hS rfl rfl (Nat.le_trans (by decide) hRf) (Nat.le_trans (by decide) hRl) (Nat.le_trans (by omega) hRc) (Nat.le_trans (by omega) hRs) (Nat.le_of_ble_eq_true rfl) dL_law_1713 rfl) hO hS (fun H locs hM hO hS => ?_)
  refine lv_iload hx hb dL_law_1716 (lv_at hl 1 rfl) ?_
  refine lv_icmp_eq (tgt := 1723) hx hb dL_law_1718 (by decide) (fun _ => ?_) (fun hne => absurd rfl hne)
  refine lv_iload hx hb dL_law_1723 (lv_at hl 1 rfl) ?_
  have fin : W p l e R s m args below meth c H locs (cells + 1 + 0 + 0) (slots + 6 + 0 + 0) Q (F0 m 1740 ls []) := by
    refine lv_goto (tgt := 2231) hx hb dL_law_1740 (by decide) ?_
    exact kk H locs ls σ2 z1 w _ _ (by decide) (by decide) w4 hM hO hS ⟨hl.1, hl.2.1, fun q hq => hl.2.2 q (List.mem_cons_of_mem _ (List.mem_cons_of_mem _ hq))⟩
  refine lv_if_ne (tgt := 1740) hx hb dL_law_1725 (by decide) (fun _ => fin) (fun h0 => ?_)
  have hcd : cd = 0 := by
    have h1 : nI cd = nI 0 := h0
    rw [p_eq (by omega) (by decide)] at h1; exact h1
  have w7 := w6 hcd
  refine lv_aload_n hx hb dL_law_1728 rfl (lv_at hl 5 rfl) ?_
  refine lv_iconst (v := (0 : Int32)) hx hb dL_law_1729 (by decide) ?_
  refine gl_lld E hO dL_law_1730 ?_
  refine lv_iload hx hb dL_law_1731 (lv_at hl 0 rfl) ?_
  refine lv_i2l (v := bv.toInt64) hx hb dL_law_1733 rfl ?_
  refine lr_lcmp hx hb dL_law_1734 w7 ?_
  exact lv_if_eq (tgt := 1740) hx hb dL_law_1735 (by decide) (fun _ => fin) (fun hne => absurd rfl hne)
set_option maxRecDepth 100000 in
set_option maxHeartbeats 4000000 in
theorem cs_24 {p : Program} {l : Launch} {e : Env} {R : Room} {s : State} {m : MethodId} {args : Array Value} {below : List Frame} {meth : Method} {c : Code} {H : Heap} {locs : List Loc} {ls : Array Slot} {cells slots : Nat} {Q : State → Prop} {X : gX} {z : Nat → Int64} {w : Nat → UInt64} (E : gE2 p s m args c cL_law X) (hml : c.maxLocals = 9) (hl0 : l.stackTraces = false) (hRf : 16 ≤ R.frames) (hRl : 1000 ≤ R.locals) (hRc : cells + 8 ≤ R.cells) (hRs : slots + 48 ≤ R.slots) {b L : Nat} {xs : Nat → Int32} (hXs : va_X b L xs s s.heap) (hbl : b < s.heap.size) (hbA : ¬ gA2 X b) {i : Int32} (hin : ∀ k : Nat, k < 5 → vp_in (i + nI k) L) {N : Nat} {σ : gMem} (hR : RR N σ σ) (hN : N ≤ 900000) (hM : gM X σ H) (hO : gO X z w H) (hS : va_S (gA2 X) s.heap H locs) (hl : lv_has ls 9 [(0, .ref b), (1, .ref (X.1 + 0)), (2, .ref (X.1 + 433)), (3, .ref (X.1 + 440)), (4, .ref (X.1 + 441)), (5, .int i)]) (kk : ∀ (H : Heap) (locs : List Loc) (ls : Array Slot) (σ : gMem) (z : Nat → Int64) (w : Nat → UInt64) (c1 s1 : Nat), c1 ≤ 8 → s1 ≤ 48 → RR (N + 1440) σ σ → gM X σ H → gO X z w H → va_S (gA2 X) s.heap H locs → lv_has ls 9 [(0, .ref b), (1, .ref (X.1 + 0)), (2, .ref (X.1 + 433)), (3, .ref (X.1 + 440)), (4, .ref (X.1 + 441)), (5, .int i)] → W p l e R s m args below meth c H locs (cells + c1) (slots + s1) Q (F0 m 2231 ls [])) : W p l e R s m args below meth c H locs cells slots Q (F0 m 1743 ls []) := by
  obtain ⟨hx, hb⟩ := (⟨E.1.1, E.1.2.1⟩ : _ ∧ _)
  refine lv_aload_n hx hb dL_law_1743 rfl (lv_at hl 1 rfl) ?_
  refine lv_aload_n hx hb dL_law_1744 rfl (lv_at hl 0 rfl) ?_
  refine lv_iload hx hb dL_law_1745 (lv_at hl 5 rfl) ?_
  refine lv_iconst (v := (1 : Int32)) hx hb dL_law_1747 (by decide) ?_
  refine lv_iadd hx hb dL_law_1748 ?_
  refine va_sld hx hb hXs hbl hbA hS (hin 1 (by decide)) dL_law_1749 ?_
  refine lv_i2c hx hb dL_law_1750 rfl ?_
  refine lv_aload_n hx hb dL_law_1751 rfl (lv_at hl 3 rfl) ?_
  obtain ⟨cd, z1, σ1, bv, σ2, w1, w2, w3, w4, w5, w6⟩ := stp_append (z := z) (w := w) hR hN ((xs (i + nI 1).toNatClampNeg).toUInt32 % 65536).toInt32
  refine gq_W (n := 3) (As := [.ref (X.1 + 0), .int ((xs (i + nI 1).toNatClampNeg).toUInt32 % 65536).toInt32, .ref (X.1 + 440)]) E hml hl.1 (cw_append l X hl0 ((xs (i + nI 1).toNatClampNeg).toUInt32 % 65536).toInt32 z w σ w1) wlw_append_s wlw_ini wlw_append_c (by decide +kernel) wlL_214 rfl hM hO hS rfl rfl (Nat.le_trans (by decide) hRf) (Nat.le_trans (by decide) hRl) (Nat.le_trans (by omega) hRc) (Nat.le_trans (by omega) hRs) (Nat.le_of_ble_eq_true rfl) dL_law_1752 rfl (fun H locs hM hO hS => ?_)
  refine lv_istore (lv' := [(6, .int (nI cd)), (0, .ref b), (1, .ref (X.1 + 0)), (2, .ref (X.1 + 433)), (3, .ref (X.1 + 440)), (4, .ref (X.1 + 441)), (5, .int i)]) hx hb dL_law_1755 hl (by decide) rfl (fun ls hl => ?_)
  refine lv_aload_n hx hb dL_law_1757 rfl (lv_at hl 3 rfl) ?_
  refine lv_aload_n hx hb dL_law_1758 rfl (lv_at hl 1 rfl) ?_
  refine lv_iload hx hb dL_law_1759 (lv_at hl 6 rfl) ?_
  refine lv_iconst (v := (1 : Int32)) hx hb dL_law_1761 (by decide) ?_
  refine lv_iadd hx hb dL_law_1762 ?_
  refine va_sld hx hb hXs hbl hbA hS (hin 1 (by decide)) dL_law_1763 ?_
  refine lv_i2c hx hb dL_law_1764 rfl ?_
  refine gb_i (gq_V (c0 := 433) (As := [.int ((xs (i + nI 1).toNatClampNeg).toUInt32 % 65536).toInt32]) (ci := 9) (rm := { frames := 1, cells := 0, slots := 0, locals := 21 }) E hml hl.1 (c_X9_append l X 433 ((xs (i + nI 1).toNatClampNeg).toUInt32 % 65536).toInt32 σ1 rfl w2) wt_X9_append wl_RL_217 rfl rfl (by decide) rfl rfl hM hS rfl rfl (Nat.le_trans (by decide) hRf) (Nat.le_trans (by decide) hRl) (Nat.le_trans (by omega) hRc) (Nat.le_trans (by omega) hRs) (Nat.le_of_ble_eq_true rfl) dL_law_1765 rfl) hO hS (fun H locs hM hO hS => ?_)
  refine lv_istore (lv' := [(7, .int bv), (6, .int (nI cd)), (0, .ref b), (1, .ref (X.1 + 0)), (2, .ref (X.1 + 433)), (3, .ref (X.1 + 440)), (4, .ref (X.1 + 441)), (5, .int i)]) hx hb dL_law_1768 hl (by decide) rfl (fun ls hl => ?_)
  refine lv_aload_n hx hb dL_law_1770 rfl (lv_at hl 4 rfl) ?_
  refine gb_i (gq_V (c0 := 433) (As := []) (ci := 9) (rm := { frames := 0, cells := 0, slots := 0, locals := 0 }) E hml hl.1 (c_X9_thrown l X 433 σ2 rfl (show f_X9_thrown 433 σ2 = some (nI cd, σ2) from congrArg (fun v => some (v, σ2)) w3)) wt_X9_thrown wl_RL_138 rfl rfl (by decide) rfl rfl hM hS rfl rfl (Nat.le_trans (by decide) hRf) (Nat.le_trans (by decide) hRl) (Nat.le_trans (by omega) hRc) (Nat.le_trans (by omega) hRs) (Nat.le_of_ble_eq_true rfl) dL_law_1771 rfl) hO hS (fun H locs hM hO hS => ?_)
  refine lv_iload hx hb dL_law_1774 (lv_at hl 1 rfl) ?_
  refine lv_icmp_eq (tgt := 1781) hx hb dL_law_1776 (by decide) (fun _ => ?_) (fun hne => absurd rfl hne)
  refine lv_iload hx hb dL_law_1781 (lv_at hl 1 rfl) ?_
  have fin : W p l e R s m args below meth c H locs (cells + 1 + 0 + 0) (slots + 6 + 0 + 0) Q (F0 m 1798 ls []) := by
    refine lv_goto (tgt := 2231) hx hb dL_law_1798 (by decide) ?_
    exact kk H locs ls σ2 z1 w _ _ (by decide) (by decide) w4 hM hO hS ⟨hl.1, hl.2.1, fun q hq => hl.2.2 q (List.mem_cons_of_mem _ (List.mem_cons_of_mem _ hq))⟩
  refine lv_if_ne (tgt := 1798) hx hb dL_law_1783 (by decide) (fun _ => fin) (fun h0 => ?_)
  have hcd : cd = 0 := by
    have h1 : nI cd = nI 0 := h0
    rw [p_eq (by omega) (by decide)] at h1; exact h1
  have w7 := w6 hcd
  refine lv_aload_n hx hb dL_law_1786 rfl (lv_at hl 5 rfl) ?_
  refine lv_iconst (v := (0 : Int32)) hx hb dL_law_1787 (by decide) ?_
  refine gl_lld E hO dL_law_1788 ?_
  refine lv_iload hx hb dL_law_1789 (lv_at hl 0 rfl) ?_
  refine lv_i2l (v := bv.toInt64) hx hb dL_law_1791 rfl ?_
  refine lr_lcmp hx hb dL_law_1792 w7 ?_
  exact lv_if_eq (tgt := 1798) hx hb dL_law_1793 (by decide) (fun _ => fin) (fun hne => absurd rfl hne)
set_option maxRecDepth 100000 in
set_option maxHeartbeats 4000000 in
theorem cs_25 {p : Program} {l : Launch} {e : Env} {R : Room} {s : State} {m : MethodId} {args : Array Value} {below : List Frame} {meth : Method} {c : Code} {H : Heap} {locs : List Loc} {ls : Array Slot} {cells slots : Nat} {Q : State → Prop} {X : gX} {z : Nat → Int64} {w : Nat → UInt64} (E : gE2 p s m args c cL_law X) (hml : c.maxLocals = 9) (hl0 : l.stackTraces = false) (hRf : 16 ≤ R.frames) (hRl : 1000 ≤ R.locals) (hRc : cells + 8 ≤ R.cells) (hRs : slots + 48 ≤ R.slots) {b L : Nat} {xs : Nat → Int32} (hXs : va_X b L xs s s.heap) (hbl : b < s.heap.size) (hbA : ¬ gA2 X b) {i : Int32} (hin : ∀ k : Nat, k < 5 → vp_in (i + nI k) L) {N : Nat} {σ : gMem} (hR : RR N σ σ) (hN : N ≤ 900000) (hM : gM X σ H) (hO : gO X z w H) (hS : va_S (gA2 X) s.heap H locs) (hl : lv_has ls 9 [(0, .ref b), (1, .ref (X.1 + 0)), (2, .ref (X.1 + 433)), (3, .ref (X.1 + 440)), (4, .ref (X.1 + 441)), (5, .int i)]) (kk : ∀ (H : Heap) (locs : List Loc) (ls : Array Slot) (σ : gMem) (z : Nat → Int64) (w : Nat → UInt64) (c1 s1 : Nat), c1 ≤ 8 → s1 ≤ 48 → RR (N + 1440) σ σ → gM X σ H → gO X z w H → va_S (gA2 X) s.heap H locs → lv_has ls 9 [(0, .ref b), (1, .ref (X.1 + 0)), (2, .ref (X.1 + 433)), (3, .ref (X.1 + 440)), (4, .ref (X.1 + 441)), (5, .int i)] → W p l e R s m args below meth c H locs (cells + c1) (slots + s1) Q (F0 m 2231 ls [])) : W p l e R s m args below meth c H locs cells slots Q (F0 m 1801 ls []) := by
  obtain ⟨hx, hb⟩ := (⟨E.1.1, E.1.2.1⟩ : _ ∧ _)
  refine lv_aload_n hx hb dL_law_1801 rfl (lv_at hl 1 rfl) ?_
  refine lv_aload_n hx hb dL_law_1802 rfl (lv_at hl 3 rfl) ?_
  obtain ⟨cd, z1, σ1, bv, σ2, w1, w2, w3, w4, w5, w6⟩ := stp_read (z := z) (w := w) hR hN 
  refine gq_W (n := 2) (As := [.ref (X.1 + 0), .ref (X.1 + 440)]) E hml hl.1 (cw_read l X hl0  z w σ w1) wlw_read_s wlw_ini wlw_read_c (by decide +kernel) wlL_218 rfl hM hO hS rfl rfl (Nat.le_trans (by decide) hRf) (Nat.le_trans (by decide) hRl) (Nat.le_trans (by omega) hRc) (Nat.le_trans (by omega) hRs) (Nat.le_of_ble_eq_true rfl) dL_law_1803 rfl (fun H locs hM hO hS => ?_)
  refine lv_istore (lv' := [(6, .int (nI cd)), (0, .ref b), (1, .ref (X.1 + 0)), (2, .ref (X.1 + 433)), (3, .ref (X.1 + 440)), (4, .ref (X.1 + 441)), (5, .int i)]) hx hb dL_law_1806 hl (by decide) rfl (fun ls hl => ?_)
  refine lv_aload_n hx hb dL_law_1808 rfl (lv_at hl 3 rfl) ?_
  refine gb_i (gq_V (c0 := 433) (As := []) (ci := 9) (rm := { frames := 7, cells := 0, slots := 0, locals := 160 }) E hml hl.1 (c_X9_read l X 433  σ1 rfl w2) wt_X9_read wl_RL_220 rfl rfl (by decide) rfl rfl hM hS rfl rfl (Nat.le_trans (by decide) hRf) (Nat.le_trans (by decide) hRl) (Nat.le_trans (by omega) hRc) (Nat.le_trans (by omega) hRs) (Nat.le_of_ble_eq_true rfl) dL_law_1809 rfl) hO hS (fun H locs hM hO hS => ?_)
  refine lv_istore (lv' := [(7, .int bv), (6, .int (nI cd)), (0, .ref b), (1, .ref (X.1 + 0)), (2, .ref (X.1 + 433)), (3, .ref (X.1 + 440)), (4, .ref (X.1 + 441)), (5, .int i)]) hx hb dL_law_1812 hl (by decide) rfl (fun ls hl => ?_)
  refine lv_aload_n hx hb dL_law_1814 rfl (lv_at hl 4 rfl) ?_
  refine gb_i (gq_V (c0 := 433) (As := []) (ci := 9) (rm := { frames := 0, cells := 0, slots := 0, locals := 0 }) E hml hl.1 (c_X9_thrown l X 433 σ2 rfl (show f_X9_thrown 433 σ2 = some (nI cd, σ2) from congrArg (fun v => some (v, σ2)) w3)) wt_X9_thrown wl_RL_138 rfl rfl (by decide) rfl rfl hM hS rfl rfl (Nat.le_trans (by decide) hRf) (Nat.le_trans (by decide) hRl) (Nat.le_trans (by omega) hRc) (Nat.le_trans (by omega) hRs) (Nat.le_of_ble_eq_true rfl) dL_law_1815 rfl) hO hS (fun H locs hM hO hS => ?_)
  refine lv_iload hx hb dL_law_1818 (lv_at hl 1 rfl) ?_
  refine lv_icmp_eq (tgt := 1825) hx hb dL_law_1820 (by decide) (fun _ => ?_) (fun hne => absurd rfl hne)
  refine lv_iload hx hb dL_law_1825 (lv_at hl 1 rfl) ?_
  have fin : W p l e R s m args below meth c H locs (cells + 1 + 0 + 0) (slots + 6 + 0 + 0) Q (F0 m 1842 ls []) := by
    refine lv_goto (tgt := 2231) hx hb dL_law_1842 (by decide) ?_
    exact kk H locs ls σ2 z1 w _ _ (by decide) (by decide) w4 hM hO hS ⟨hl.1, hl.2.1, fun q hq => hl.2.2 q (List.mem_cons_of_mem _ (List.mem_cons_of_mem _ hq))⟩
  refine lv_if_ne (tgt := 1842) hx hb dL_law_1827 (by decide) (fun _ => fin) (fun h0 => ?_)
  have hcd : cd = 0 := by
    have h1 : nI cd = nI 0 := h0
    rw [p_eq (by omega) (by decide)] at h1; exact h1
  have w7 := w6 hcd
  refine lv_aload_n hx hb dL_law_1830 rfl (lv_at hl 5 rfl) ?_
  refine lv_iconst (v := (0 : Int32)) hx hb dL_law_1831 (by decide) ?_
  refine gl_lld E hO dL_law_1832 ?_
  refine lv_iload hx hb dL_law_1833 (lv_at hl 0 rfl) ?_
  refine lv_i2l (v := bv.toInt64) hx hb dL_law_1835 rfl ?_
  refine lr_lcmp hx hb dL_law_1836 w7 ?_
  exact lv_if_eq (tgt := 1842) hx hb dL_law_1837 (by decide) (fun _ => fin) (fun hne => absurd rfl hne)
set_option maxRecDepth 100000 in
set_option maxHeartbeats 4000000 in
theorem cs_26 {p : Program} {l : Launch} {e : Env} {R : Room} {s : State} {m : MethodId} {args : Array Value} {below : List Frame} {meth : Method} {c : Code} {H : Heap} {locs : List Loc} {ls : Array Slot} {cells slots : Nat} {Q : State → Prop} {X : gX} {z : Nat → Int64} {w : Nat → UInt64} (E : gE2 p s m args c cL_law X) (hml : c.maxLocals = 9) (hl0 : l.stackTraces = false) (hRf : 16 ≤ R.frames) (hRl : 1000 ≤ R.locals) (hRc : cells + 8 ≤ R.cells) (hRs : slots + 48 ≤ R.slots) {b L : Nat} {xs : Nat → Int32} (hXs : va_X b L xs s s.heap) (hbl : b < s.heap.size) (hbA : ¬ gA2 X b) {i : Int32} (hin : ∀ k : Nat, k < 5 → vp_in (i + nI k) L) {N : Nat} {σ : gMem} (hR : RR N σ σ) (hN : N ≤ 900000) (hM : gM X σ H) (hO : gO X z w H) (hS : va_S (gA2 X) s.heap H locs) (hl : lv_has ls 9 [(0, .ref b), (1, .ref (X.1 + 0)), (2, .ref (X.1 + 433)), (3, .ref (X.1 + 440)), (4, .ref (X.1 + 441)), (5, .int i)]) (kk : ∀ (H : Heap) (locs : List Loc) (ls : Array Slot) (σ : gMem) (z : Nat → Int64) (w : Nat → UInt64) (c1 s1 : Nat), c1 ≤ 8 → s1 ≤ 48 → RR (N + 1440) σ σ → gM X σ H → gO X z w H → va_S (gA2 X) s.heap H locs → lv_has ls 9 [(0, .ref b), (1, .ref (X.1 + 0)), (2, .ref (X.1 + 433)), (3, .ref (X.1 + 440)), (4, .ref (X.1 + 441)), (5, .int i)] → W p l e R s m args below meth c H locs (cells + c1) (slots + s1) Q (F0 m 2231 ls [])) : W p l e R s m args below meth c H locs cells slots Q (F0 m 1845 ls []) := by
  obtain ⟨hx, hb⟩ := (⟨E.1.1, E.1.2.1⟩ : _ ∧ _)
  obtain ⟨av, σ1, σ2, w1, w2, w3⟩ := stp_errorPosition hR
  refine lv_aload_n hx hb dL_law_1845 rfl (lv_at hl 1 rfl) ?_
  refine gb_i (gq_V (c0 := 0) (As := []) (ci := 8) (rm := { frames := 0, cells := 0, slots := 0, locals := 0 }) E hml hl.1 (c_X8_errorPosition l X 0 σ rfl w1) wt_X8_errorPosition wl_RL_221 rfl rfl (by decide) rfl rfl hM hS rfl rfl (Nat.le_trans (by decide) hRf) (Nat.le_trans (by decide) hRl) (Nat.le_trans (by omega) hRc) (Nat.le_trans (by omega) hRs) (Nat.le_of_ble_eq_true rfl) dL_law_1846 rfl) hO hS (fun H locs hM hO hS => ?_)
  refine lv_aload_n hx hb dL_law_1849 rfl (lv_at hl 2 rfl) ?_
  refine gb_i (gq_V (c0 := 433) (As := []) (ci := 9) (rm := { frames := 1, cells := 0, slots := 0, locals := 21 }) E hml hl.1 (c_X9_errorPosition l X 433 σ1 rfl w2) wt_X9_errorPosition wl_RL_224 rfl rfl (by decide) rfl rfl hM hS rfl rfl (Nat.le_trans (by decide) hRf) (Nat.le_trans (by decide) hRl) (Nat.le_trans (by omega) hRc) (Nat.le_trans (by omega) hRs) (Nat.le_of_ble_eq_true rfl) dL_law_1850 rfl) hO hS (fun H locs hM hO hS => ?_)
  exact lv_icmp_eq (tgt := 2231) hx hb dL_law_1853 (by decide) (fun _ => kk H locs ls σ2 z w _ _ (by decide) (by decide) w3 hM hO hS hl) (fun hne => absurd rfl hne)
set_option maxRecDepth 100000 in
set_option maxHeartbeats 4000000 in
theorem cs_27 {p : Program} {l : Launch} {e : Env} {R : Room} {s : State} {m : MethodId} {args : Array Value} {below : List Frame} {meth : Method} {c : Code} {H : Heap} {locs : List Loc} {ls : Array Slot} {cells slots : Nat} {Q : State → Prop} {X : gX} {z : Nat → Int64} {w : Nat → UInt64} (E : gE2 p s m args c cL_law X) (hml : c.maxLocals = 9) (hl0 : l.stackTraces = false) (hRf : 16 ≤ R.frames) (hRl : 1000 ≤ R.locals) (hRc : cells + 8 ≤ R.cells) (hRs : slots + 48 ≤ R.slots) {b L : Nat} {xs : Nat → Int32} (hXs : va_X b L xs s s.heap) (hbl : b < s.heap.size) (hbA : ¬ gA2 X b) {i : Int32} (hin : ∀ k : Nat, k < 5 → vp_in (i + nI k) L) {N : Nat} {σ : gMem} (hR : RR N σ σ) (hN : N ≤ 900000) (hM : gM X σ H) (hO : gO X z w H) (hS : va_S (gA2 X) s.heap H locs) (hl : lv_has ls 9 [(0, .ref b), (1, .ref (X.1 + 0)), (2, .ref (X.1 + 433)), (3, .ref (X.1 + 440)), (4, .ref (X.1 + 441)), (5, .int i)]) (kk : ∀ (H : Heap) (locs : List Loc) (ls : Array Slot) (σ : gMem) (z : Nat → Int64) (w : Nat → UInt64) (c1 s1 : Nat), c1 ≤ 8 → s1 ≤ 48 → RR (N + 1440) σ σ → gM X σ H → gO X z w H → va_S (gA2 X) s.heap H locs → lv_has ls 9 [(0, .ref b), (1, .ref (X.1 + 0)), (2, .ref (X.1 + 433)), (3, .ref (X.1 + 440)), (4, .ref (X.1 + 441)), (5, .int i)] → W p l e R s m args below meth c H locs (cells + c1) (slots + s1) Q (F0 m 2231 ls [])) : W p l e R s m args below meth c H locs cells slots Q (F0 m 1858 ls []) := by
  obtain ⟨hx, hb⟩ := (⟨E.1.1, E.1.2.1⟩ : _ ∧ _)
  by_cases hz : xs (i + nI 1).toNatClampNeg = 0
  · refine lv_aload_n hx hb dL_law_1858 rfl (lv_at hl 1 rfl) ?_
    refine lv_aload_n hx hb dL_law_1859 rfl (lv_at hl 0 rfl) ?_
    refine lv_iload hx hb dL_law_1860 (lv_at hl 5 rfl) ?_
    refine lv_iconst (v := (1 : Int32)) hx hb dL_law_1862 (by decide) ?_
    refine lv_iadd hx hb dL_law_1863 ?_
    refine va_sld hx hb hXs hbl hbA hS (hin 1 (by decide)) dL_law_1864 ?_
    refine lv_if_eq (tgt := 1872) hx hb dL_law_1865 (by decide) (fun _ => ?_) (fun hne => absurd hz hne)
    refine lv_iconst (v := (0 : Int32)) hx hb dL_law_1872 (by decide) ?_
    refine lv_aload_n hx hb dL_law_1873 rfl (lv_at hl 3 rfl) ?_
    obtain ⟨cd, z1, σ1, bv, σ2, w1, w2, w3, w4, w5, w6⟩ := stp_refusal (z := z) (w := w) hR hN (0 : Int32)
    refine gq_W (n := 3) (As := [.ref (X.1 + 0), .int (0 : Int32), .ref (X.1 + 440)]) E hml hl.1 (cw_refusal l X hl0 (0 : Int32) z w σ w1) wlw_refusal_s wlw_ini wlw_refusal_c (by decide +kernel) wlL_225 rfl hM hO hS rfl rfl (Nat.le_trans (by decide) hRf) (Nat.le_trans (by decide) hRl) (Nat.le_trans (by omega) hRc) (Nat.le_trans (by omega) hRs) (Nat.le_of_ble_eq_true rfl) dL_law_1874 rfl (fun H locs hM hO hS => ?_)
    refine lv_istore (lv' := [(6, .int (nI cd)), (0, .ref b), (1, .ref (X.1 + 0)), (2, .ref (X.1 + 433)), (3, .ref (X.1 + 440)), (4, .ref (X.1 + 441)), (5, .int i)]) hx hb dL_law_1877 hl (by decide) rfl (fun ls hl => ?_)
    refine lv_aload_n hx hb dL_law_1879 rfl (lv_at hl 3 rfl) ?_
    refine lv_aload_n hx hb dL_law_1880 rfl (lv_at hl 1 rfl) ?_
    refine lv_iload hx hb dL_law_1881 (lv_at hl 6 rfl) ?_
    refine lv_iconst (v := (1 : Int32)) hx hb dL_law_1883 (by decide) ?_
    refine lv_iadd hx hb dL_law_1884 ?_
    refine va_sld hx hb hXs hbl hbA hS (hin 1 (by decide)) dL_law_1885 ?_
    refine lv_if_eq (tgt := 1893) hx hb dL_law_1886 (by decide) (fun _ => ?_) (fun hne => absurd hz hne)
    refine lv_iconst (v := (0 : Int32)) hx hb dL_law_1893 (by decide) ?_
    refine gb_i (gq_V (c0 := 433) (As := [.int (0 : Int32)]) (ci := 9) (rm := { frames := 1, cells := 0, slots := 0, locals := 21 }) E hml hl.1 (c_X9_refusal l X 433 (0 : Int32) σ1 rfl w2) wt_X9_refusal wl_RL_228 rfl rfl (by decide) rfl rfl hM hS rfl rfl (Nat.le_trans (by decide) hRf) (Nat.le_trans (by decide) hRl) (Nat.le_trans (by omega) hRc) (Nat.le_trans (by omega) hRs) (Nat.le_of_ble_eq_true rfl) dL_law_1894 rfl) hO hS (fun H locs hM hO hS => ?_)
    refine lv_istore (lv' := [(7, .int bv), (6, .int (nI cd)), (0, .ref b), (1, .ref (X.1 + 0)), (2, .ref (X.1 + 433)), (3, .ref (X.1 + 440)), (4, .ref (X.1 + 441)), (5, .int i)]) hx hb dL_law_1897 hl (by decide) rfl (fun ls hl => ?_)
    refine lv_aload_n hx hb dL_law_1899 rfl (lv_at hl 4 rfl) ?_
    refine gb_i (gq_V (c0 := 433) (As := []) (ci := 9) (rm := { frames := 0, cells := 0, slots := 0, locals := 0 }) E hml hl.1 (c_X9_thrown l X 433 σ2 rfl (show f_X9_thrown 433 σ2 = some (nI cd, σ2) from congrArg (fun v => some (v, σ2)) w3)) wt_X9_thrown wl_RL_138 rfl rfl (by decide) rfl rfl hM hS rfl rfl (Nat.le_trans (by decide) hRf) (Nat.le_trans (by decide) hRl) (Nat.le_trans (by omega) hRc) (Nat.le_trans (by omega) hRs) (Nat.le_of_ble_eq_true rfl) dL_law_1900 rfl) hO hS (fun H locs hM hO hS => ?_)
    refine lv_iload hx hb dL_law_1903 (lv_at hl 1 rfl) ?_
    refine lv_icmp_eq (tgt := 1910) hx hb dL_law_1905 (by decide) (fun _ => ?_) (fun hne => absurd rfl hne)
    refine lv_iload hx hb dL_law_1910 (lv_at hl 1 rfl) ?_
    have fin : W p l e R s m args below meth c H locs (cells + 1 + 0 + 0) (slots + 6 + 0 + 0) Q (F0 m 1927 ls []) := by
      refine lv_goto (tgt := 2231) hx hb dL_law_1927 (by decide) ?_
      exact kk H locs ls σ2 z1 w _ _ (by decide) (by decide) w4 hM hO hS ⟨hl.1, hl.2.1, fun q hq => hl.2.2 q (List.mem_cons_of_mem _ (List.mem_cons_of_mem _ hq))⟩
    refine lv_if_ne (tgt := 1927) hx hb dL_law_1912 (by decide) (fun _ => fin) (fun h0 => ?_)
    have hcd : cd = 0 := by
      have h1 : nI cd = nI 0 := h0
      rw [p_eq (by omega) (by decide)] at h1; exact h1
    have w7 := w6 hcd
    refine lv_aload_n hx hb dL_law_1915 rfl (lv_at hl 5 rfl) ?_
    refine lv_iconst (v := (0 : Int32)) hx hb dL_law_1916 (by decide) ?_
    refine gl_lld E hO dL_law_1917 ?_
    refine lv_iload hx hb dL_law_1918 (lv_at hl 0 rfl) ?_
    refine lv_i2l (v := bv.toInt64) hx hb dL_law_1920 rfl ?_
    refine lr_lcmp hx hb dL_law_1921 w7 ?_
    exact lv_if_eq (tgt := 1927) hx hb dL_law_1922 (by decide) (fun _ => fin) (fun hne => absurd rfl hne)
  · refine lv_aload_n hx hb dL_law_1858 rfl (lv_at hl 1 rfl) ?_
    refine lv_aload_n hx hb dL_law_1859 rfl (lv_at hl 0 rfl) ?_
    refine lv_iload hx hb dL_law_1860 (lv_at hl 5 rfl) ?_
    refine lv_iconst (v := (1 : Int32)) hx hb dL_law_1862 (by decide) ?_
    refine lv_iadd hx hb dL_law_1863 ?_
    refine va_sld hx hb hXs hbl hbA hS (hin 1 (by decide)) dL_law_1864 ?_
    refine lv_if_eq (tgt := 1872) hx hb dL_law_1865 (by decide) (fun he => absurd he hz) (fun _ => ?_)
    refine lv_iconst (v := (1 : Int32)) hx hb dL_law_1868 (by decide) ?_
    refine lv_goto (tgt := 1873) hx hb dL_law_1869 (by decide) ?_
    refine lv_aload_n hx hb dL_law_1873 rfl (lv_at hl 3 rfl) ?_
    obtain ⟨cd, z1, σ1, bv, σ2, w1, w2, w3, w4, w5, w6⟩ := stp_refusal (z := z) (w := w) hR hN (1 : Int32)
    refine gq_W (n := 3) (As := [.ref (X.1 + 0), .int (1 : Int32), .ref (X.1 + 440)]) E hml hl.1 (cw_refusal l X hl0 (1 : Int32) z w σ w1) wlw_refusal_s wlw_ini wlw_refusal_c (by decide +kernel) wlL_225 rfl hM hO hS rfl rfl (Nat.le_trans (by decide) hRf) (Nat.le_trans (by decide) hRl) (Nat.le_trans (by omega) hRc) (Nat.le_trans (by omega) hRs) (Nat.le_of_ble_eq_true rfl) dL_law_1874 rfl (fun H locs hM hO hS => ?_)
    refine lv_istore (lv' := [(6, .int (nI cd)), (0, .ref b), (1, .ref (X.1 + 0)), (2, .ref (X.1 + 433)), (3, .ref (X.1 + 440)), (4, .ref (X.1 + 441)), (5, .int i)]) hx hb dL_law_1877 hl (by decide) rfl (fun ls hl => ?_)
    refine lv_aload_n hx hb dL_law_1879 rfl (lv_at hl 3 rfl) ?_
    refine lv_aload_n hx hb dL_law_1880 rfl (lv_at hl 1 rfl) ?_
    refine lv_iload hx hb dL_law_1881 (lv_at hl 6 rfl) ?_
    refine lv_iconst (v := (1 : Int32)) hx hb dL_law_1883 (by decide) ?_
    refine lv_iadd hx hb dL_law_1884 ?_
    refine va_sld hx hb hXs hbl hbA hS (hin 1 (by decide)) dL_law_1885 ?_
    refine lv_if_eq (tgt := 1893) hx hb dL_law_1886 (by decide) (fun he => absurd he hz) (fun _ => ?_)
    refine lv_iconst (v := (1 : Int32)) hx hb dL_law_1889 (by decide) ?_
    refine lv_goto (tgt := 1894) hx hb dL_law_1890 (by decide) ?_
    refine gb_i (gq_V (c0 := 433) (As := [.int (1 : Int32)]) (ci := 9) (rm := { frames := 1, cells := 0, slots := 0, locals := 21 }) E hml hl.1 (c_X9_refusal l X 433 (1 : Int32) σ1 rfl w2) wt_X9_refusal wl_RL_228 rfl rfl (by decide) rfl rfl hM hS rfl rfl (Nat.le_trans (by decide) hRf) (Nat.le_trans (by decide) hRl) (Nat.le_trans (by omega) hRc) (Nat.le_trans (by omega) hRs) (Nat.le_of_ble_eq_true rfl) dL_law_1894 rfl) hO hS (fun H locs hM hO hS => ?_)
    refine lv_istore (lv' := [(7, .int bv), (6, .int (nI cd)), (0, .ref b), (1, .ref (X.1 + 0)), (2, .ref (X.1 + 433)), (3, .ref (X.1 + 440)), (4, .ref (X.1 + 441)), (5, .int i)]) hx hb dL_law_1897 hl (by decide) rfl (fun ls hl => ?_)
    refine lv_aload_n hx hb dL_law_1899 rfl (lv_at hl 4 rfl) ?_
    refine gb_i (gq_V (c0 := 433) (As := []) (ci := 9) (rm := { frames := 0, cells := 0, slots := 0, locals := 0 }) E hml hl.1 (c_X9_thrown l X 433 σ2 rfl (show f_X9_thrown 433 σ2 = some (nI cd, σ2) from congrArg (fun v => some (v, σ2)) w3)) wt_X9_thrown wl_RL_138 rfl rfl (by decide) rfl rfl hM hS rfl rfl (Nat.le_trans (by decide) hRf) (Nat.le_trans (by decide) hRl) (Nat.le_trans (by omega) hRc) (Nat.le_trans (by omega) hRs) (Nat.le_of_ble_eq_true rfl) dL_law_1900 rfl) hO hS (fun H locs hM hO hS => ?_)
    refine lv_iload hx hb dL_law_1903 (lv_at hl 1 rfl) ?_
    refine lv_icmp_eq (tgt := 1910) hx hb dL_law_1905 (by decide) (fun _ => ?_) (fun hne => absurd rfl hne)
    refine lv_iload hx hb dL_law_1910 (lv_at hl 1 rfl) ?_
    have fin : W p l e R s m args below meth c H locs (cells + 1 + 0 + 0) (slots + 6 + 0 + 0) Q (F0 m 1927 ls []) := by
      refine lv_goto (tgt := 2231) hx hb dL_law_1927 (by decide) ?_
      exact kk H locs ls σ2 z1 w _ _ (by decide) (by decide) w4 hM hO hS ⟨hl.1, hl.2.1, fun q hq => hl.2.2 q (List.mem_cons_of_mem _ (List.mem_cons_of_mem _ hq))⟩
    refine lv_if_ne (tgt := 1927) hx hb dL_law_1912 (by decide) (fun _ => fin) (fun h0 => ?_)
    have hcd : cd = 0 := by
      have h1 : nI cd = nI 0 := h0
      rw [p_eq (by omega) (by decide)] at h1; exact h1
    have w7 := w6 hcd
    refine lv_aload_n hx hb dL_law_1915 rfl (lv_at hl 5 rfl) ?_
    refine lv_iconst (v := (0 : Int32)) hx hb dL_law_1916 (by decide) ?_
    refine gl_lld E hO dL_law_1917 ?_
    refine lv_iload hx hb dL_law_1918 (lv_at hl 0 rfl) ?_
    refine lv_i2l (v := bv.toInt64) hx hb dL_law_1920 rfl ?_
    refine lr_lcmp hx hb dL_law_1921 w7 ?_
    exact lv_if_eq (tgt := 1927) hx hb dL_law_1922 (by decide) (fun _ => fin) (fun hne => absurd rfl hne)
set_option maxRecDepth 100000 in
set_option maxHeartbeats 4000000 in
theorem cs_28 {p : Program} {l : Launch} {e : Env} {R : Room} {s : State} {m : MethodId} {args : Array Value} {below : List Frame} {meth : Method} {c : Code} {H : Heap} {locs : List Loc} {ls : Array Slot} {cells slots : Nat} {Q : State → Prop} {X : gX} {z : Nat → Int64} {w : Nat → UInt64} (E : gE2 p s m args c cL_law X) (hml : c.maxLocals = 9) (hl0 : l.stackTraces = false) (hRf : 16 ≤ R.frames) (hRl : 1000 ≤ R.locals) (hRc : cells + 8 ≤ R.cells) (hRs : slots + 48 ≤ R.slots) {b L : Nat} {xs : Nat → Int32} (hXs : va_X b L xs s s.heap) (hbl : b < s.heap.size) (hbA : ¬ gA2 X b) {i : Int32} (hin : ∀ k : Nat, k < 5 → vp_in (i + nI k) L) {N : Nat} {σ : gMem} (hR : RR N σ σ) (hN : N ≤ 900000) (hM : gM X σ H) (hO : gO X z w H) (hS : va_S (gA2 X) s.heap H locs) (hl : lv_has ls 9 [(0, .ref b), (1, .ref (X.1 + 0)), (2, .ref (X.1 + 433)), (3, .ref (X.1 + 440)), (4, .ref (X.1 + 441)), (5, .int i)]) (kk : ∀ (H : Heap) (locs : List Loc) (ls : Array Slot) (σ : gMem) (z : Nat → Int64) (w : Nat → UInt64) (c1 s1 : Nat), c1 ≤ 8 → s1 ≤ 48 → RR (N + 1440) σ σ → gM X σ H → gO X z w H → va_S (gA2 X) s.heap H locs → lv_has ls 9 [(0, .ref b), (1, .ref (X.1 + 0)), (2, .ref (X.1 + 433)), (3, .ref (X.1 + 440)), (4, .ref (X.1 + 441)), (5, .int i)] → W p l e R s m args below meth c H locs (cells + c1) (slots + s1) Q (F0 m 2231 ls [])) : W p l e R s m args below meth c H locs cells slots Q (F0 m 1930 ls []) := by
  obtain ⟨hx, hb⟩ := (⟨E.1.1, E.1.2.1⟩ : _ ∧ _)
  refine lv_aload_n hx hb dL_law_1930 rfl (lv_at hl 1 rfl) ?_
  refine lv_aload_n hx hb dL_law_1931 rfl (lv_at hl 0 rfl) ?_
  refine lv_iload hx hb dL_law_1932 (lv_at hl 5 rfl) ?_
  refine lv_iconst (v := (1 : Int32)) hx hb dL_law_1934 (by decide) ?_
  refine lv_iadd hx hb dL_law_1935 ?_
  refine va_sld hx hb hXs hbl hbA hS (hin 1 (by decide)) dL_law_1936 ?_
  refine lv_aload_n hx hb dL_law_1937 rfl (lv_at hl 3 rfl) ?_
  obtain ⟨cd, z1, σ1, bv, σ2, w1, w2, w3, w4, w5, w6⟩ := stp_account (z := z) (w := w) hR hN (xs (i + nI 1).toNatClampNeg)
  refine gq_W (n := 3) (As := [.ref (X.1 + 0), .int (xs (i + nI 1).toNatClampNeg), .ref (X.1 + 440)]) E hml hl.1 (cw_account l X hl0 (xs (i + nI 1).toNatClampNeg) z w σ w1) wlw_account_s wlw_ini wlw_account_c (by decide +kernel) wlL_229 rfl hM hO hS rfl rfl (Nat.le_trans (by decide) hRf) (Nat.le_trans (by decide) hRl) (Nat.le_trans (by omega) hRc) (Nat.le_trans (by omega) hRs) (Nat.le_of_ble_eq_true rfl) dL_law_1938 rfl (fun H locs hM hO hS => ?_)
  refine lv_istore (lv' := [(6, .int (nI cd)), (0, .ref b), (1, .ref (X.1 + 0)), (2, .ref (X.1 + 433)), (3, .ref (X.1 + 440)), (4, .ref (X.1 + 441)), (5, .int i)]) hx hb dL_law_1941 hl (by decide) rfl (fun ls hl => ?_)
  refine lv_aload_n hx hb dL_law_1943 rfl (lv_at hl 3 rfl) ?_
  refine lv_aload_n hx hb dL_law_1944 rfl (lv_at hl 1 rfl) ?_
  refine lv_iload hx hb dL_law_1945 (lv_at hl 6 rfl) ?_
  refine lv_iconst (v := (1 : Int32)) hx hb dL_law_1947 (by decide) ?_
  refine lv_iadd hx hb dL_law_1948 ?_
  refine va_sld hx hb hXs hbl hbA hS (hin 1 (by decide)) dL_law_1949 ?_
  refine gb_i (gq_V (c0 := 433) (As := [.int (xs (i + nI 1).toNatClampNeg)]) (ci := 9) (rm := { frames := 3, cells := 0, slots := 0, locals := 67 }) E hml hl.1 (c_X9_account l X 433 (xs (i + nI 1).toNatClampNeg) σ1 rfl w2) wt_X9_account wl_RL_231 rfl rfl (by decide) rfl rfl hM hS rfl rfl (Nat.le_trans (by decide) hRf) (Nat.le_trans (by decide) hRl) (Nat.le_trans (by omega) hRc) (Nat.le_trans (by omega) hRs) (Nat.le_of_ble_eq_true rfl) dL_law_1950 rfl) hO hS (fun H locs hM hO hS => ?_)
  refine lv_istore (lv' := [(7, .int bv), (6, .int (nI cd)), (0, .ref b), (1, .ref (X.1 + 0)), (2, .ref (X.1 + 433)), (3, .ref (X.1 + 440)), (4, .ref (X.1 + 441)), (5, .int i)]) hx hb dL_law_1953 hl (by decide) rfl (fun ls hl => ?_)
  refine lv_aload_n hx hb dL_law_1955 rfl (lv_at hl 4 rfl) ?_
  refine gb_i (gq_V (c0 := 433) (As := []) (ci := 9) (rm := { frames := 0, cells := 0, slots := 0, locals := 0 }) E hml hl.1 (c_X9_thrown l X 433 σ2 rfl (show f_X9_thrown 433 σ2 = some (nI cd, σ2) from congrArg (fun v => some (v, σ2)) w3)) wt_X9_thrown wl_RL_138 rfl rfl (by decide) rfl rfl hM hS rfl rfl (Nat.le_trans (by decide) hRf) (Nat.le_trans (by decide) hRl) (Nat.le_trans (by omega) hRc) (Nat.le_trans (by omega) hRs) (Nat.le_of_ble_eq_true rfl) dL_law_1956 rfl) hO hS (fun H locs hM hO hS => ?_)
  refine lv_iload hx hb dL_law_1959 (lv_at hl 1 rfl) ?_
  refine lv_icmp_eq (tgt := 1966) hx hb dL_law_1961 (by decide) (fun _ => ?_) (fun hne => absurd rfl hne)
  refine lv_iload hx hb dL_law_1966 (lv_at hl 1 rfl) ?_
  have fin : W p l e R s m args below meth c H locs (cells + 1 + 0 + 0) (slots + 6 + 0 + 0) Q (F0 m 1983 ls []) := by
    refine lv_goto (tgt := 2231) hx hb dL_law_1983 (by decide) ?_
    exact kk H locs ls σ2 z1 w _ _ (by decide) (by decide) w4 hM hO hS ⟨hl.1, hl.2.1, fun q hq => hl.2.2 q (List.mem_cons_of_mem _ (List.mem_cons_of_mem _ hq))⟩
  refine lv_if_ne (tgt := 1983) hx hb dL_law_1968 (by decide) (fun _ => fin) (fun h0 => ?_)
  have hcd : cd = 0 := by
    have h1 : nI cd = nI 0 := h0
    rw [p_eq (by omega) (by decide)] at h1; exact h1
  have w7 := w6 hcd
  refine lv_aload_n hx hb dL_law_1971 rfl (lv_at hl 5 rfl) ?_
  refine lv_iconst (v := (0 : Int32)) hx hb dL_law_1972 (by decide) ?_
  refine gl_lld E hO dL_law_1973 ?_
  refine lv_iload hx hb dL_law_1974 (lv_at hl 0 rfl) ?_
  refine lv_i2l (v := bv.toInt64) hx hb dL_law_1976 rfl ?_
  refine lr_lcmp hx hb dL_law_1977 w7 ?_
  exact lv_if_eq (tgt := 1983) hx hb dL_law_1978 (by decide) (fun _ => fin) (fun hne => absurd rfl hne)
set_option maxRecDepth 100000 in
set_option maxHeartbeats 4000000 in
theorem cs_29 {p : Program} {l : Launch} {e : Env} {R : Room} {s : State} {m : MethodId} {args : Array Value} {below : List Frame} {meth : Method} {c : Code} {H : Heap} {locs : List Loc} {ls : Array Slot} {cells slots : Nat} {Q : State → Prop} {X : gX} {z : Nat → Int64} {w : Nat → UInt64} (E : gE2 p s m args c cL_law X) (hml : c.maxLocals = 9) (hl0 : l.stackTraces = false) (hRf : 16 ≤ R.frames) (hRl : 1000 ≤ R.locals) (hRc : cells + 8 ≤ R.cells) (hRs : slots + 48 ≤ R.slots) {b L : Nat} {xs : Nat → Int32} (hXs : va_X b L xs s s.heap) (hbl : b < s.heap.size) (hbA : ¬ gA2 X b) {i : Int32} (hin : ∀ k : Nat, k < 5 → vp_in (i + nI k) L) {N : Nat} {σ : gMem} (hR : RR N σ σ) (hN : N ≤ 900000) (hM : gM X σ H) (hO : gO X z w H) (hS : va_S (gA2 X) s.heap H locs) (hl : lv_has ls 9 [(0, .ref b), (1, .ref (X.1 + 0)), (2, .ref (X.1 + 433)), (3, .ref (X.1 + 440)), (4, .ref (X.1 + 441)), (5, .int i)]) (kk : ∀ (H : Heap) (locs : List Loc) (ls : Array Slot) (σ : gMem) (z : Nat → Int64) (w : Nat → UInt64) (c1 s1 : Nat), c1 ≤ 8 → s1 ≤ 48 → RR (N + 1440) σ σ → gM X σ H → gO X z w H → va_S (gA2 X) s.heap H locs → lv_has ls 9 [(0, .ref b), (1, .ref (X.1 + 0)), (2, .ref (X.1 + 433)), (3, .ref (X.1 + 440)), (4, .ref (X.1 + 441)), (5, .int i)] → W p l e R s m args below meth c H locs (cells + c1) (slots + s1) Q (F0 m 2231 ls [])) : W p l e R s m args below meth c H locs cells slots Q (F0 m 1986 ls []) := by
  obtain ⟨hx, hb⟩ := (⟨E.1.1, E.1.2.1⟩ : _ ∧ _)
  obtain ⟨av, σ1, σ2, w1, w2, w3⟩ := stp_isWell hR
  refine lv_aload_n hx hb dL_law_1986 rfl (lv_at hl 1 rfl) ?_
  refine gb_i (gq_V (c0 := 0) (As := []) (ci := 8) (rm := { frames := 4, cells := 0, slots := 0, locals := 125 }) E hml hl.1 (c_X8_isWell l X 0 σ rfl w1) wt_X8_isWell wl_RL_232 rfl rfl (by decide) rfl rfl hM hS rfl rfl (Nat.le_trans (by decide) hRf) (Nat.le_trans (by decide) hRl) (Nat.le_trans (by omega) hRc) (Nat.le_trans (by omega) hRs) (Nat.le_of_ble_eq_true rfl) dL_law_1987 rfl) hO hS (fun H locs hM hO hS => ?_)
  refine lv_aload_n hx hb dL_law_1990 rfl (lv_at hl 2 rfl) ?_
  refine gb_i (gq_V (c0 := 433) (As := []) (ci := 9) (rm := { frames := 3, cells := 0, slots := 0, locals := 67 }) E hml hl.1 (c_X9_isWell l X 433 σ1 rfl w2) wt_X9_isWell wl_RL_236 rfl rfl (by decide) rfl rfl hM hS rfl rfl (Nat.le_trans (by decide) hRf) (Nat.le_trans (by decide) hRl) (Nat.le_trans (by omega) hRc) (Nat.le_trans (by omega) hRs) (Nat.le_of_ble_eq_true rfl) dL_law_1991 rfl) hO hS (fun H locs hM hO hS => ?_)
  exact lv_icmp_eq (tgt := 2231) hx hb dL_law_1994 (by decide) (fun _ => kk H locs ls σ2 z w _ _ (by decide) (by decide) w3 hM hO hS hl) (fun hne => absurd rfl hne)
set_option maxRecDepth 100000 in
set_option maxHeartbeats 4000000 in
theorem cs_30 {p : Program} {l : Launch} {e : Env} {R : Room} {s : State} {m : MethodId} {args : Array Value} {below : List Frame} {meth : Method} {c : Code} {H : Heap} {locs : List Loc} {ls : Array Slot} {cells slots : Nat} {Q : State → Prop} {X : gX} {z : Nat → Int64} {w : Nat → UInt64} (E : gE2 p s m args c cL_law X) (hml : c.maxLocals = 9) (hl0 : l.stackTraces = false) (hRf : 16 ≤ R.frames) (hRl : 1000 ≤ R.locals) (hRc : cells + 8 ≤ R.cells) (hRs : slots + 48 ≤ R.slots) {b L : Nat} {xs : Nat → Int32} (hXs : va_X b L xs s s.heap) (hbl : b < s.heap.size) (hbA : ¬ gA2 X b) {i : Int32} (hin : ∀ k : Nat, k < 5 → vp_in (i + nI k) L) {N : Nat} {σ : gMem} (hR : RR N σ σ) (hN : N ≤ 900000) (hM : gM X σ H) (hO : gO X z w H) (hS : va_S (gA2 X) s.heap H locs) (hl : lv_has ls 9 [(0, .ref b), (1, .ref (X.1 + 0)), (2, .ref (X.1 + 433)), (3, .ref (X.1 + 440)), (4, .ref (X.1 + 441)), (5, .int i)]) (kk : ∀ (H : Heap) (locs : List Loc) (ls : Array Slot) (σ : gMem) (z : Nat → Int64) (w : Nat → UInt64) (c1 s1 : Nat), c1 ≤ 8 → s1 ≤ 48 → RR (N + 1440) σ σ → gM X σ H → gO X z w H → va_S (gA2 X) s.heap H locs → lv_has ls 9 [(0, .ref b), (1, .ref (X.1 + 0)), (2, .ref (X.1 + 433)), (3, .ref (X.1 + 440)), (4, .ref (X.1 + 441)), (5, .int i)] → W p l e R s m args below meth c H locs (cells + c1) (slots + s1) Q (F0 m 2231 ls [])) : W p l e R s m args below meth c H locs cells slots Q (F0 m 1999 ls []) := by
  obtain ⟨hx, hb⟩ := (⟨E.1.1, E.1.2.1⟩ : _ ∧ _)
  refine lv_aload_n hx hb dL_law_1999 rfl (lv_at hl 1 rfl) ?_
  refine lv_aload hx hb dL_law_2000 (lv_at hl 4 rfl) ?_
  obtain ⟨cd, z1, σ1, bv, σ2, w1, w2, w3, w4, w5, w6⟩ := stp_meanDampness (z := z) (w := w) hR
  refine gq_W (n := 2) (As := [.ref (X.1 + 0), .ref (X.1 + 441)]) E hml hl.1 (cw_meanDampness l X hl0 z w σ w1) wlw_meanDampness_s wlw_ini wlw_meanDampness_c (by decide +kernel) wlL_237 rfl hM hO hS rfl rfl (Nat.le_trans (by decide) hRf) (Nat.le_trans (by decide) hRl) (Nat.le_trans (by omega) hRc) (Nat.le_trans (by omega) hRs) (Nat.le_of_ble_eq_true rfl) dL_law_2002 rfl (fun H locs hM hO hS => ?_)
  refine lv_istore (lv' := [(6, .int (nI cd)), (0, .ref b), (1, .ref (X.1 + 0)), (2, .ref (X.1 + 433)), (3, .ref (X.1 + 440)), (4, .ref (X.1 + 441)), (5, .int i)]) hx hb dL_law_2005 hl (by decide) rfl (fun ls hl => ?_)
  refine lv_aload_n hx hb dL_law_2007 rfl (lv_at hl 3 rfl) ?_
  refine gb_d (gq_V (c0 := 433) (As := []) (ci := 9) (rm := { frames := 1, cells := 0, slots := 0, locals := 24 }) E hml hl.1 (c_X9_meanDampness l X 433 σ1 rfl w2) wt_X9_meanDampness wl_RL_240 rfl rfl (by decide) rfl rfl hM hS rfl rfl (Nat.le_trans (by decide) hRf) (Nat.le_trans (by decide) hRl) (Nat.le_trans (by omega) hRc) (Nat.le_trans (by omega) hRs) (Nat.le_of_ble_eq_true rfl) dL_law_2008 rfl) hO hS (fun H locs hM hO hS => ?_)
  refine lv_dstore (lv' := [(7, .double bv), (6, .int (nI cd)), (0, .ref b), (1, .ref (X.1 + 0)), (2, .ref (X.1 + 433)), (3, .ref (X.1 + 440)), (4, .ref (X.1 + 441)), (5, .int i)]) hx hb dL_law_2011 hl (by decide) rfl (fun ls hl => ?_)
  refine lv_aload_n hx hb dL_law_2013 rfl (lv_at hl 4 rfl) ?_
  refine gb_i (gq_V (c0 := 433) (As := []) (ci := 9) (rm := { frames := 0, cells := 0, slots := 0, locals := 0 }) E hml hl.1 (c_X9_thrown l X 433 σ2 rfl (show f_X9_thrown 433 σ2 = some (nI cd, σ2) from congrArg (fun v => some (v, σ2)) w3)) wt_X9_thrown wl_RL_138 rfl rfl (by decide) rfl rfl hM hS rfl rfl (Nat.le_trans (by decide) hRf) (Nat.le_trans (by decide) hRl) (Nat.le_trans (by omega) hRc) (Nat.le_trans (by omega) hRs) (Nat.le_of_ble_eq_true rfl) dL_law_2014 rfl) hO hS (fun H locs hM hO hS => ?_)
  refine lv_iload hx hb dL_law_2017 (lv_at hl 1 rfl) ?_
  refine lv_icmp_eq (tgt := 2024) hx hb dL_law_2019 (by decide) (fun _ => ?_) (fun hne => absurd rfl hne)
  refine lv_iload hx hb dL_law_2024 (lv_at hl 1 rfl) ?_
  have fin : W p l e R s m args below meth c H locs (cells + 1 + 0 + 0) (slots + 6 + 0 + 0) Q (F0 m 2061 ls []) := by
    refine lv_goto (tgt := 2231) hx hb dL_law_2061 (by decide) ?_
    exact kk H locs ls σ2 z z1 _ _ (by decide) (by decide) w4 hM hO hS ⟨hl.1, hl.2.1, fun q hq => hl.2.2 q (List.mem_cons_of_mem _ (List.mem_cons_of_mem _ hq))⟩
  refine lv_if_ne (tgt := 2061) hx hb dL_law_2026 (by decide) (fun _ => fin) (fun h0 => ?_)
  have hcd : cd = 0 := by
    have h1 : nI cd = nI 0 := h0
    rw [p_eq (by omega) (by decide)] at h1; exact h1
  obtain ⟨w7, w8⟩ := w6 hcd
  refine lv_aload hx hb dL_law_2029 (lv_at hl 6 rfl) ?_
  refine lv_iconst (v := (0 : Int32)) hx hb dL_law_2031 (by decide) ?_
  refine gl_dld E hO dL_law_2032 ?_
  refine lv_dload hx hb dL_law_2033 (lv_at hl 0 rfl) ?_
  refine lr_dcmp hx hb dL_law_2035 w7 w8 ?_
  exact lv_if_eq (tgt := 2061) hx hb dL_law_2036 (by decide) (fun _ => fin) (fun hne => absurd rfl hne)
set_option maxRecDepth 100000 in
set_option maxHeartbeats 4000000 in
theorem cs_31 {p : Program} {l : Launch} {e : Env} {R : Room} {s : State} {m : MethodId} {args : Array Value} {below : List Frame} {meth : Method} {c : Code} {H : Heap} {locs : List Loc} {ls : Array Slot} {cells slots : Nat} {Q : State → Prop} {X : gX} {z : Nat → Int64} {w : Nat → UInt64} (E : gE2 p s m args c cL_law X) (hml : c.maxLocals = 9) (hl0 : l.stackTraces = false) (hRf : 16 ≤ R.frames) (hRl : 1000 ≤ R.locals) (hRc : cells + 8 ≤ R.cells) (hRs : slots + 48 ≤ R.slots) {b L : Nat} {xs : Nat → Int32} (hXs : va_X b L xs s s.heap) (hbl : b < s.heap.size) (hbA : ¬ gA2 X b) {i : Int32} (hin : ∀ k : Nat, k < 5 → vp_in (i + nI k) L) {N : Nat} {σ : gMem} (hR : RR N σ σ) (hN : N ≤ 900000) (hM : gM X σ H) (hO : gO X z w H) (hS : va_S (gA2 X) s.heap H locs) (hl : lv_has ls 9 [(0, .ref b), (1, .ref (X.1 + 0)), (2, .ref (X.1 + 433)), (3, .ref (X.1 + 440)), (4, .ref (X.1 + 441)), (5, .int i)]) (kk : ∀ (H : Heap) (locs : List Loc) (ls : Array Slot) (σ : gMem) (z : Nat → Int64) (w : Nat → UInt64) (c1 s1 : Nat), c1 ≤ 8 → s1 ≤ 48 → RR (N + 1440) σ σ → gM X σ H → gO X z w H → va_S (gA2 X) s.heap H locs → lv_has ls 9 [(0, .ref b), (1, .ref (X.1 + 0)), (2, .ref (X.1 + 433)), (3, .ref (X.1 + 440)), (4, .ref (X.1 + 441)), (5, .int i)] → W p l e R s m args below meth c H locs (cells + c1) (slots + s1) Q (F0 m 2231 ls [])) : W p l e R s m args below meth c H locs cells slots Q (F0 m 2064 ls []) := by
  obtain ⟨hx, hb⟩ := (⟨E.1.1, E.1.2.1⟩ : _ ∧ _)
  refine lv_aload_n hx hb dL_law_2064 rfl (lv_at hl 1 rfl) ?_
  refine lv_aload hx hb dL_law_2065 (lv_at hl 4 rfl) ?_
  obtain ⟨cd, z1, σ1, bv, σ2, w1, w2, w3, w4, w5, w6⟩ := stp_broken (z := z) (w := w) hR
  refine gq_W (n := 2) (As := [.ref (X.1 + 0), .ref (X.1 + 441)]) E hml hl.1 (cw_broken l X hl0 z w σ w1) wlw_broken_s wlw_ini wlw_broken_c (by decide +kernel) wlL_241 rfl hM hO hS rfl rfl (Nat.le_trans (by decide) hRf) (Nat.le_trans (by decide) hRl) (Nat.le_trans (by omega) hRc) (Nat.le_trans (by omega) hRs) (Nat.le_of_ble_eq_true rfl) dL_law_2067 rfl (fun H locs hM hO hS => ?_)
  refine lv_istore (lv' := [(6, .int (nI cd)), (0, .ref b), (1, .ref (X.1 + 0)), (2, .ref (X.1 + 433)), (3, .ref (X.1 + 440)), (4, .ref (X.1 + 441)), (5, .int i)]) hx hb dL_law_2070 hl (by decide) rfl (fun ls hl => ?_)
  refine lv_aload_n hx hb dL_law_2072 rfl (lv_at hl 3 rfl) ?_
  refine gb_f (gq_V (c0 := 433) (As := []) (ci := 9) (rm := { frames := 0, cells := 0, slots := 0, locals := 0 }) E hml hl.1 (c_X9_broken l X 433 σ1 rfl w2) wt_X9_broken wl_RL_243 rfl rfl (by decide) rfl rfl hM hS rfl rfl (Nat.le_trans (by decide) hRf) (Nat.le_trans (by decide) hRl) (Nat.le_trans (by omega) hRc) (Nat.le_trans (by omega) hRs) (Nat.le_of_ble_eq_true rfl) dL_law_2073 rfl) hO hS (fun H locs hM hO hS => ?_)
  refine lv_fstore (lv' := [(7, .float bv), (6, .int (nI cd)), (0, .ref b), (1, .ref (X.1 + 0)), (2, .ref (X.1 + 433)), (3, .ref (X.1 + 440)), (4, .ref (X.1 + 441)), (5, .int i)]) hx hb dL_law_2076 hl (by decide) rfl (fun ls hl => ?_)
  refine lv_aload_n hx hb dL_law_2078 rfl (lv_at hl 4 rfl) ?_
  refine gb_i (gq_V (c0 := 433) (As := []) (ci := 9) (rm := { frames := 0, cells := 0, slots := 0, locals := 0 }) E hml hl.1 (c_X9_thrown l X 433 σ2 rfl (show f_X9_thrown 433 σ2 = some (nI cd, σ2) from congrArg (fun v => some (v, σ2)) w3)) wt_X9_thrown wl_RL_138 rfl rfl (by decide) rfl rfl hM hS rfl rfl (Nat.le_trans (by decide) hRf) (Nat.le_trans (by decide) hRl) (Nat.le_trans (by omega) hRc) (Nat.le_trans (by omega) hRs) (Nat.le_of_ble_eq_true rfl) dL_law_2079 rfl) hO hS (fun H locs hM hO hS => ?_)
  refine lv_iload hx hb dL_law_2082 (lv_at hl 1 rfl) ?_
  refine lv_icmp_eq (tgt := 2089) hx hb dL_law_2084 (by decide) (fun _ => ?_) (fun hne => absurd rfl hne)
  refine lv_iload hx hb dL_law_2089 (lv_at hl 1 rfl) ?_
  have fin : W p l e R s m args below meth c H locs (cells + 1 + 0 + 0) (slots + 6 + 0 + 0) Q (F0 m 2127 ls []) := by
    refine lv_goto (tgt := 2231) hx hb dL_law_2127 (by decide) ?_
    exact kk H locs ls σ2 z z1 _ _ (by decide) (by decide) w4 hM hO hS ⟨hl.1, hl.2.1, fun q hq => hl.2.2 q (List.mem_cons_of_mem _ (List.mem_cons_of_mem _ hq))⟩
  refine lv_if_ne (tgt := 2127) hx hb dL_law_2091 (by decide) (fun _ => fin) (fun h0 => ?_)
  have hcd : cd = 0 := by
    have h1 : nI cd = nI 0 := h0
    rw [p_eq (by omega) (by decide)] at h1; exact h1
  obtain ⟨w7, w8⟩ := w6 hcd
  refine lv_aload hx hb dL_law_2094 (lv_at hl 6 rfl) ?_
  refine lv_iconst (v := (0 : Int32)) hx hb dL_law_2096 (by decide) ?_
  refine gl_dld E hO dL_law_2097 ?_
  refine lv_fload hx hb dL_law_2098 (lv_at hl 0 rfl) ?_
  refine lv_f2d hx hb dL_law_2100 (Jvm.Free.Fl.f2d_out w8) ?_
  refine lr_dcmp hx hb dL_law_2101 w7 (Jvm.Free.Fl.f2d_out w8) ?_
  exact lv_if_eq (tgt := 2127) hx hb dL_law_2102 (by decide) (fun _ => fin) (fun hne => absurd rfl hne)
set_option maxRecDepth 100000 in
set_option maxHeartbeats 4000000 in
theorem cs_32 {p : Program} {l : Launch} {e : Env} {R : Room} {s : State} {m : MethodId} {args : Array Value} {below : List Frame} {meth : Method} {c : Code} {H : Heap} {locs : List Loc} {ls : Array Slot} {cells slots : Nat} {Q : State → Prop} {X : gX} {z : Nat → Int64} {w : Nat → UInt64} (E : gE2 p s m args c cL_law X) (hml : c.maxLocals = 9) (hl0 : l.stackTraces = false) (hRf : 16 ≤ R.frames) (hRl : 1000 ≤ R.locals) (hRc : cells + 8 ≤ R.cells) (hRs : slots + 48 ≤ R.slots) {b L : Nat} {xs : Nat → Int32} (hXs : va_X b L xs s s.heap) (hbl : b < s.heap.size) (hbA : ¬ gA2 X b) {i : Int32} (hin : ∀ k : Nat, k < 5 → vp_in (i + nI k) L) {N : Nat} {σ : gMem} (hR : RR N σ σ) (hN : N ≤ 900000) (hM : gM X σ H) (hO : gO X z w H) (hS : va_S (gA2 X) s.heap H locs) (hl : lv_has ls 9 [(0, .ref b), (1, .ref (X.1 + 0)), (2, .ref (X.1 + 433)), (3, .ref (X.1 + 440)), (4, .ref (X.1 + 441)), (5, .int i)]) (kk : ∀ (H : Heap) (locs : List Loc) (ls : Array Slot) (σ : gMem) (z : Nat → Int64) (w : Nat → UInt64) (c1 s1 : Nat), c1 ≤ 8 → s1 ≤ 48 → RR (N + 1440) σ σ → gM X σ H → gO X z w H → va_S (gA2 X) s.heap H locs → lv_has ls 9 [(0, .ref b), (1, .ref (X.1 + 0)), (2, .ref (X.1 + 433)), (3, .ref (X.1 + 440)), (4, .ref (X.1 + 441)), (5, .int i)] → W p l e R s m args below meth c H locs (cells + c1) (slots + s1) Q (F0 m 2231 ls [])) : W p l e R s m args below meth c H locs cells slots Q (F0 m 2130 ls []) := by
  obtain ⟨hx, hb⟩ := (⟨E.1.1, E.1.2.1⟩ : _ ∧ _)
  refine lv_aload_n hx hb dL_law_2130 rfl (lv_at hl 1 rfl) ?_
  refine lv_aload_n hx hb dL_law_2131 rfl (lv_at hl 3 rfl) ?_
  obtain ⟨cd, z1, σ1, bv, σ2, w1, w2, w3, w4, w5, w6⟩ := stp_undo (z := z) (w := w) hR hN 
  refine gq_W (n := 2) (As := [.ref (X.1 + 0), .ref (X.1 + 440)]) E hml hl.1 (cw_undo l X hl0  z w σ w1) wlw_undo_s wlw_ini wlw_undo_c (by decide +kernel) wlL_244 rfl hM hO hS rfl rfl (Nat.le_trans (by decide) hRf) (Nat.le_trans (by decide) hRl) (Nat.le_trans (by omega) hRc) (Nat.le_trans (by omega) hRs) (Nat.le_of_ble_eq_true rfl) dL_law_2132 rfl (fun H locs hM hO hS => ?_)
  refine lv_istore (lv' := [(6, .int (nI cd)), (0, .ref b), (1, .ref (X.1 + 0)), (2, .ref (X.1 + 433)), (3, .ref (X.1 + 440)), (4, .ref (X.1 + 441)), (5, .int i)]) hx hb dL_law_2135 hl (by decide) rfl (fun ls hl => ?_)
  refine lv_aload_n hx hb dL_law_2137 rfl (lv_at hl 3 rfl) ?_
  refine gb_i (gq_V (c0 := 433) (As := []) (ci := 9) (rm := { frames := 1, cells := 0, slots := 0, locals := 24 }) E hml hl.1 (c_X9_undo l X 433  σ1 rfl w2) wt_X9_undo wl_RL_246 rfl rfl (by decide) rfl rfl hM hS rfl rfl (Nat.le_trans (by decide) hRf) (Nat.le_trans (by decide) hRl) (Nat.le_trans (by omega) hRc) (Nat.le_trans (by omega) hRs) (Nat.le_of_ble_eq_true rfl) dL_law_2138 rfl) hO hS (fun H locs hM hO hS => ?_)
  refine lv_istore (lv' := [(7, .int bv), (6, .int (nI cd)), (0, .ref b), (1, .ref (X.1 + 0)), (2, .ref (X.1 + 433)), (3, .ref (X.1 + 440)), (4, .ref (X.1 + 441)), (5, .int i)]) hx hb dL_law_2141 hl (by decide) rfl (fun ls hl => ?_)
  refine lv_aload_n hx hb dL_law_2143 rfl (lv_at hl 4 rfl) ?_
  refine gb_i (gq_V (c0 := 433) (As := []) (ci := 9) (rm := { frames := 0, cells := 0, slots := 0, locals := 0 }) E hml hl.1 (c_X9_thrown l X 433 σ2 rfl (show f_X9_thrown 433 σ2 = some (nI cd, σ2) from congrArg (fun v => some (v, σ2)) w3)) wt_X9_thrown wl_RL_138 rfl rfl (by decide) rfl rfl hM hS rfl rfl (Nat.le_trans (by decide) hRf) (Nat.le_trans (by decide) hRl) (Nat.le_trans (by omega) hRc) (Nat.le_trans (by omega) hRs) (Nat.le_of_ble_eq_true rfl) dL_law_2144 rfl) hO hS (fun H locs hM hO hS => ?_)
  refine lv_iload hx hb dL_law_2147 (lv_at hl 1 rfl) ?_
  refine lv_icmp_eq (tgt := 2154) hx hb dL_law_2149 (by decide) (fun _ => ?_) (fun hne => absurd rfl hne)
  refine lv_iload hx hb dL_law_2154 (lv_at hl 1 rfl) ?_
  have fin : W p l e R s m args below meth c H locs (cells + 1 + 0 + 0) (slots + 6 + 0 + 0) Q (F0 m 2171 ls []) := by
    refine lv_goto (tgt := 2231) hx hb dL_law_2171 (by decide) ?_
    exact kk H locs ls σ2 z1 w _ _ (by decide) (by decide) w4 hM hO hS ⟨hl.1, hl.2.1, fun q hq => hl.2.2 q (List.mem_cons_of_mem _ (List.mem_cons_of_mem _ hq))⟩
  refine lv_if_ne (tgt := 2171) hx hb dL_law_2156 (by decide) (fun _ => fin) (fun h0 => ?_)
  have hcd : cd = 0 := by
    have h1 : nI cd = nI 0 := h0
    rw [p_eq (by omega) (by decide)] at h1; exact h1
  have w7 := w6 hcd
  refine lv_aload_n hx hb dL_law_2159 rfl (lv_at hl 5 rfl) ?_
  refine lv_iconst (v := (0 : Int32)) hx hb dL_law_2160 (by decide) ?_
  refine gl_lld E hO dL_law_2161 ?_
  refine lv_iload hx hb dL_law_2162 (lv_at hl 0 rfl) ?_
  refine lv_i2l (v := bv.toInt64) hx hb dL_law_2164 rfl ?_
  refine lr_lcmp hx hb dL_law_2165 w7 ?_
  exact lv_if_eq (tgt := 2171) hx hb dL_law_2166 (by decide) (fun _ => fin) (fun hne => absurd rfl hne)
set_option maxRecDepth 100000 in
set_option maxHeartbeats 4000000 in
theorem cs_33 {p : Program} {l : Launch} {e : Env} {R : Room} {s : State} {m : MethodId} {args : Array Value} {below : List Frame} {meth : Method} {c : Code} {H : Heap} {locs : List Loc} {ls : Array Slot} {cells slots : Nat} {Q : State → Prop} {X : gX} {z : Nat → Int64} {w : Nat → UInt64} (E : gE2 p s m args c cL_law X) (hml : c.maxLocals = 9) (hl0 : l.stackTraces = false) (hRf : 16 ≤ R.frames) (hRl : 1000 ≤ R.locals) (hRc : cells + 8 ≤ R.cells) (hRs : slots + 48 ≤ R.slots) {b L : Nat} {xs : Nat → Int32} (hXs : va_X b L xs s s.heap) (hbl : b < s.heap.size) (hbA : ¬ gA2 X b) {i : Int32} (hin : ∀ k : Nat, k < 5 → vp_in (i + nI k) L) {N : Nat} {σ : gMem} (hR : RR N σ σ) (hN : N ≤ 900000) (hM : gM X σ H) (hO : gO X z w H) (hS : va_S (gA2 X) s.heap H locs) (hl : lv_has ls 9 [(0, .ref b), (1, .ref (X.1 + 0)), (2, .ref (X.1 + 433)), (3, .ref (X.1 + 440)), (4, .ref (X.1 + 441)), (5, .int i)]) (kk : ∀ (H : Heap) (locs : List Loc) (ls : Array Slot) (σ : gMem) (z : Nat → Int64) (w : Nat → UInt64) (c1 s1 : Nat), c1 ≤ 8 → s1 ≤ 48 → RR (N + 1440) σ σ → gM X σ H → gO X z w H → va_S (gA2 X) s.heap H locs → lv_has ls 9 [(0, .ref b), (1, .ref (X.1 + 0)), (2, .ref (X.1 + 433)), (3, .ref (X.1 + 440)), (4, .ref (X.1 + 441)), (5, .int i)] → W p l e R s m args below meth c H locs (cells + c1) (slots + s1) Q (F0 m 2231 ls [])) : W p l e R s m args below meth c H locs cells slots Q (F0 m 2174 ls []) := by
  obtain ⟨hx, hb⟩ := (⟨E.1.1, E.1.2.1⟩ : _ ∧ _)
  obtain ⟨av, σ1, σ2, w1, w2, w3⟩ := stp_save hR
  refine lv_aload_n hx hb dL_law_2174 rfl (lv_at hl 1 rfl) ?_
  refine gb_i (gq_V (c0 := 0) (As := []) (ci := 8) (rm := { frames := 3, cells := 0, slots := 0, locals := 103 }) E hml hl.1 (c_X8_save l X 0 σ rfl w1) wt_X8_save wl_RL_247 rfl rfl (by decide) rfl rfl hM hS rfl rfl (Nat.le_trans (by decide) hRf) (Nat.le_trans (by decide) hRl) (Nat.le_trans (by omega) hRc) (Nat.le_trans (by omega) hRs) (Nat.le_of_ble_eq_true rfl) dL_law_2175 rfl) hO hS (fun H locs hM hO hS => ?_)
  refine lv_aload_n hx hb dL_law_2178 rfl (lv_at hl 2 rfl) ?_
  refine gb_i (gq_V (c0 := 433) (As := []) (ci := 9) (rm := { frames := 1, cells := 0, slots := 0, locals := 24 }) E hml hl.1 (c_X9_save l X 433 σ1 rfl w2) wt_X9_save wl_RL_250 rfl rfl (by decide) rfl rfl hM hS rfl rfl (Nat.le_trans (by decide) hRf) (Nat.le_trans (by decide) hRl) (Nat.le_trans (by omega) hRc) (Nat.le_trans (by omega) hRs) (Nat.le_of_ble_eq_true rfl) dL_law_2179 rfl) hO hS (fun H locs hM hO hS => ?_)
  exact lv_icmp_eq (tgt := 2231) hx hb dL_law_2182 (by decide) (fun _ => kk H locs ls σ2 z w _ _ (by decide) (by decide) w3 hM hO hS hl) (fun hne => absurd rfl hne)
set_option maxRecDepth 100000 in
set_option maxHeartbeats 4000000 in
theorem cs_34 {p : Program} {l : Launch} {e : Env} {R : Room} {s : State} {m : MethodId} {args : Array Value} {below : List Frame} {meth : Method} {c : Code} {H : Heap} {locs : List Loc} {ls : Array Slot} {cells slots : Nat} {Q : State → Prop} {X : gX} {z : Nat → Int64} {w : Nat → UInt64} (E : gE2 p s m args c cL_law X) (hml : c.maxLocals = 9) (hl0 : l.stackTraces = false) (hRf : 16 ≤ R.frames) (hRl : 1000 ≤ R.locals) (hRc : cells + 8 ≤ R.cells) (hRs : slots + 48 ≤ R.slots) {b L : Nat} {xs : Nat → Int32} (hXs : va_X b L xs s s.heap) (hbl : b < s.heap.size) (hbA : ¬ gA2 X b) {i : Int32} (hin : ∀ k : Nat, k < 5 → vp_in (i + nI k) L) {N : Nat} {σ : gMem} (hR : RR N σ σ) (hN : N ≤ 900000) (hM : gM X σ H) (hO : gO X z w H) (hS : va_S (gA2 X) s.heap H locs) (hl : lv_has ls 9 [(0, .ref b), (1, .ref (X.1 + 0)), (2, .ref (X.1 + 433)), (3, .ref (X.1 + 440)), (4, .ref (X.1 + 441)), (5, .int i)]) (kk : ∀ (H : Heap) (locs : List Loc) (ls : Array Slot) (σ : gMem) (z : Nat → Int64) (w : Nat → UInt64) (c1 s1 : Nat), c1 ≤ 8 → s1 ≤ 48 → RR (N + 1440) σ σ → gM X σ H → gO X z w H → va_S (gA2 X) s.heap H locs → lv_has ls 9 [(0, .ref b), (1, .ref (X.1 + 0)), (2, .ref (X.1 + 433)), (3, .ref (X.1 + 440)), (4, .ref (X.1 + 441)), (5, .int i)] → W p l e R s m args below meth c H locs (cells + c1) (slots + s1) Q (F0 m 2231 ls [])) : W p l e R s m args below meth c H locs cells slots Q (F0 m 2187 ls []) := by
  obtain ⟨hx, hb⟩ := (⟨E.1.1, E.1.2.1⟩ : _ ∧ _)
  refine lv_aload_n hx hb dL_law_2187 rfl (lv_at hl 1 rfl) ?_
  refine lv_aload_n hx hb dL_law_2188 rfl (lv_at hl 3 rfl) ?_
  obtain ⟨cd, z1, σ1, bv, σ2, w1, w2, w3, w4, w5, w6⟩ := stp_restore (z := z) (w := w) hR hN 
  refine gq_W (n := 2) (As := [.ref (X.1 + 0), .ref (X.1 + 440)]) E hml hl.1 (cw_restore l X hl0  z w σ w1) wlw_restore_s wlw_ini wlw_restore_c (by decide +kernel) wlL_251 rfl hM hO hS rfl rfl (Nat.le_trans (by decide) hRf) (Nat.le_trans (by decide) hRl) (Nat.le_trans (by omega) hRc) (Nat.le_trans (by omega) hRs) (Nat.le_of_ble_eq_true rfl) dL_law_2189 rfl (fun H locs hM hO hS => ?_)
  refine lv_istore (lv' := [(6, .int (nI cd)), (0, .ref b), (1, .ref (X.1 + 0)), (2, .ref (X.1 + 433)), (3, .ref (X.1 + 440)), (4, .ref (X.1 + 441)), (5, .int i)]) hx hb dL_law_2192 hl (by decide) rfl (fun ls hl => ?_)
  refine lv_aload_n hx hb dL_law_2194 rfl (lv_at hl 3 rfl) ?_
  refine gb_i (gq_V (c0 := 433) (As := []) (ci := 9) (rm := { frames := 1, cells := 0, slots := 0, locals := 24 }) E hml hl.1 (c_X9_restore l X 433  σ1 rfl w2) wt_X9_restore wl_RL_253 rfl rfl (by decide) rfl rfl hM hS rfl rfl (Nat.le_trans (by decide) hRf) (Nat.le_trans (by decide) hRl) (Nat.le_trans (by omega) hRc) (Nat.le_trans (by omega) hRs) (Nat.le_of_ble_eq_true rfl) dL_law_2195 rfl) hO hS (fun H locs hM hO hS => ?_)
  refine lv_istore (lv' := [(7, .int bv), (6, .int (nI cd)), (0, .ref b), (1, .ref (X.1 + 0)), (2, .ref (X.1 + 433)), (3, .ref (X.1 + 440)), (4, .ref (X.1 + 441)), (5, .int i)]) hx hb dL_law_2198 hl (by decide) rfl (fun ls hl => ?_)
  refine lv_aload_n hx hb dL_law_2200 rfl (lv_at hl 4 rfl) ?_
  refine gb_i (gq_V (c0 := 433) (As := []) (ci := 9) (rm := { frames := 0, cells := 0, slots := 0, locals := 0 }) E hml hl.1 (c_X9_thrown l X 433 σ2 rfl (show f_X9_thrown 433 σ2 = some (nI cd, σ2) from congrArg (fun v => some (v, σ2)) w3)) wt_X9_thrown wl_RL_138 rfl rfl (by decide) rfl rfl hM hS rfl rfl (Nat.le_trans (by decide) hRf) (Nat.le_trans (by decide) hRl) (Nat.le_trans (by omega) hRc) (Nat.le_trans (by omega) hRs) (Nat.le_of_ble_eq_true rfl) dL_law_2201 rfl) hO hS (fun H locs hM hO hS => ?_)
  refine lv_iload hx hb dL_law_2204 (lv_at hl 1 rfl) ?_
  refine lv_icmp_eq (tgt := 2211) hx hb dL_law_2206 (by decide) (fun _ => ?_) (fun hne => absurd rfl hne)
  refine lv_iload hx hb dL_law_2211 (lv_at hl 1 rfl) ?_
  have fin : W p l e R s m args below meth c H locs (cells + 1 + 0 + 0) (slots + 6 + 0 + 0) Q (F0 m 2228 ls []) := by
    refine lv_goto (tgt := 2231) hx hb dL_law_2228 (by decide) ?_
    exact kk H locs ls σ2 z1 w _ _ (by decide) (by decide) w4 hM hO hS ⟨hl.1, hl.2.1, fun q hq => hl.2.2 q (List.mem_cons_of_mem _ (List.mem_cons_of_mem _ hq))⟩
  refine lv_if_ne (tgt := 2228) hx hb dL_law_2213 (by decide) (fun _ => fin) (fun h0 => ?_)
  have hcd : cd = 0 := by
    have h1 : nI cd = nI 0 := h0
    rw [p_eq (by omega) (by decide)] at h1; exact h1
  have w7 := w6 hcd
  refine lv_aload_n hx hb dL_law_2216 rfl (lv_at hl 5 rfl) ?_
  refine lv_iconst (v := (0 : Int32)) hx hb dL_law_2217 (by decide) ?_
  refine gl_lld E hO dL_law_2218 ?_
  refine lv_iload hx hb dL_law_2219 (lv_at hl 0 rfl) ?_
  refine lv_i2l (v := bv.toInt64) hx hb dL_law_2221 rfl ?_
  refine lr_lcmp hx hb dL_law_2222 w7 ?_
  exact lv_if_eq (tgt := 2228) hx hb dL_law_2223 (by decide) (fun _ => fin) (fun hne => absurd rfl hne)
