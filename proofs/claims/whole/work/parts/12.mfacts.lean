/-! the reference: cell 0 is the object, the others its arrays: 1 tape, 2 text, 3 tKind, 4 tPlace, 5 tValue, 6 tName, 7 keys, 8 nameOf, 9 noises, 10 isClock, 11 firstOf, 12 everyOf, 13 lastsOf, 14 loudOf, 15 priceOf, 16 places, 17 farOf, 18 shots, 19 longOf, 20 limitOf, 21 move, 22 coinsTold, 23 seed, 24 lawFirst, 25 lawLast, 26 hasTest, 27 testFrom, 28 testMid, 29 testTo, 30 termTo, 31 code, 32 codeInt, 33 waits, 34 variables, 35 pile, 36 now, 37 row, 38 loudBy, 39 history, 40 due, 41 beginBy, 42 inTime, 43 toldPlace, 44 toldSecond, 45 toldNoise, 46 isHeld, 47 heldRows -/
def Fm : List (Option Nat) := [none, some 1, none, some 2, none, some 3, some 4, some 5, some 6, some 7, none, none, none, none, none, none, none, none, none, none, none, some 8, some 9, some 10, some 11, some 12, some 13, some 14, some 15, some 16, some 17, some 18, some 19, some 20, some 21, some 22, some 23, some 24, some 25, none, some 26, some 27, some 28, some 29, some 30, none, some 31, some 32, some 33, none, some 34, some 35, none, some 36, some 37, none, some 38, none, some 39, some 40, none, some 41, none, none, some 42, none, some 43, some 44, some 45, some 46, some 47]
def Lm : List qv_Lc := [.inl (12, Fm), .inr (1, 2000, []), .inr (1, 2000, []), .inr (0, 403, []), .inr (0, 403, []), .inr (0, 403, []), .inr (3, 403, []), .inr (3, 22, []), .inr (3, 18, []), .inr (0, 2, []), .inr (2, 16, []), .inr (0, 16, []), .inr (0, 16, []), .inr (0, 16, []), .inr (0, 16, []), .inr (0, 16, []), .inr (0, 2, []), .inr (0, 8, []), .inr (0, 2, []), .inr (0, 12, []), .inr (0, 12, []), .inr (0, 2, []), .inr (0, 2, []), .inr (0, 2, []), .inr (0, 6, []), .inr (0, 6, []), .inr (2, 260, []), .inr (0, 260, []), .inr (0, 260, []), .inr (0, 260, []), .inr (0, 260, []), .inr (0, 840, []), .inr (0, 840, []), .inr (0, 64, []), .inr (0, 9, []), .inr (0, 400, []), .inr (0, 32, []), .inr (0, 32, []), .inr (0, 1620, []), .inr (0, 1280, []), .inr (0, 5, []), .inr (0, 8100, []), .inr (2, 32, []), .inr (0, 20, []), .inr (0, 20, []), .inr (0, 20, []), .inr (2, 3, []), .inr (0, 96, [])]
theorem lmO : Lm[0]? = some (.inl (12, Fm)) := rfl
theorem lmA_1 : Lm[1]? = some (.inr (1, 2000, [])) := rfl
theorem lmA_2 : Lm[2]? = some (.inr (1, 2000, [])) := rfl
theorem lmA_3 : Lm[3]? = some (.inr (0, 403, [])) := rfl
theorem lmA_4 : Lm[4]? = some (.inr (0, 403, [])) := rfl
theorem lmA_5 : Lm[5]? = some (.inr (0, 403, [])) := rfl
theorem lmA_6 : Lm[6]? = some (.inr (3, 403, [])) := rfl
theorem lmA_7 : Lm[7]? = some (.inr (3, 22, [])) := rfl
theorem lmA_8 : Lm[8]? = some (.inr (3, 18, [])) := rfl
theorem lmA_9 : Lm[9]? = some (.inr (0, 2, [])) := rfl
theorem lmA_10 : Lm[10]? = some (.inr (2, 16, [])) := rfl
theorem lmA_11 : Lm[11]? = some (.inr (0, 16, [])) := rfl
theorem lmA_12 : Lm[12]? = some (.inr (0, 16, [])) := rfl
theorem lmA_13 : Lm[13]? = some (.inr (0, 16, [])) := rfl
theorem lmA_14 : Lm[14]? = some (.inr (0, 16, [])) := rfl
theorem lmA_15 : Lm[15]? = some (.inr (0, 16, [])) := rfl
theorem lmA_16 : Lm[16]? = some (.inr (0, 2, [])) := rfl
theorem lmA_17 : Lm[17]? = some (.inr (0, 8, [])) := rfl
theorem lmA_18 : Lm[18]? = some (.inr (0, 2, [])) := rfl
theorem lmA_19 : Lm[19]? = some (.inr (0, 12, [])) := rfl
theorem lmA_20 : Lm[20]? = some (.inr (0, 12, [])) := rfl
theorem lmA_21 : Lm[21]? = some (.inr (0, 2, [])) := rfl
theorem lmA_22 : Lm[22]? = some (.inr (0, 2, [])) := rfl
theorem lmA_23 : Lm[23]? = some (.inr (0, 2, [])) := rfl
theorem lmA_24 : Lm[24]? = some (.inr (0, 6, [])) := rfl
theorem lmA_25 : Lm[25]? = some (.inr (0, 6, [])) := rfl
theorem lmA_26 : Lm[26]? = some (.inr (2, 260, [])) := rfl
theorem lmA_27 : Lm[27]? = some (.inr (0, 260, [])) := rfl
theorem lmA_28 : Lm[28]? = some (.inr (0, 260, [])) := rfl
theorem lmA_29 : Lm[29]? = some (.inr (0, 260, [])) := rfl
theorem lmA_30 : Lm[30]? = some (.inr (0, 260, [])) := rfl
theorem lmA_31 : Lm[31]? = some (.inr (0, 840, [])) := rfl
theorem lmA_32 : Lm[32]? = some (.inr (0, 840, [])) := rfl
theorem lmA_33 : Lm[33]? = some (.inr (0, 64, [])) := rfl
theorem lmA_34 : Lm[34]? = some (.inr (0, 9, [])) := rfl
theorem lmA_35 : Lm[35]? = some (.inr (0, 400, [])) := rfl
theorem lmA_36 : Lm[36]? = some (.inr (0, 32, [])) := rfl
theorem lmA_37 : Lm[37]? = some (.inr (0, 32, [])) := rfl
theorem lmA_38 : Lm[38]? = some (.inr (0, 1620, [])) := rfl
theorem lmA_39 : Lm[39]? = some (.inr (0, 1280, [])) := rfl
theorem lmA_40 : Lm[40]? = some (.inr (0, 5, [])) := rfl
theorem lmA_41 : Lm[41]? = some (.inr (0, 8100, [])) := rfl
theorem lmA_42 : Lm[42]? = some (.inr (2, 32, [])) := rfl
theorem lmA_43 : Lm[43]? = some (.inr (0, 20, [])) := rfl
theorem lmA_44 : Lm[44]? = some (.inr (0, 20, [])) := rfl
theorem lmA_45 : Lm[45]? = some (.inr (0, 20, [])) := rfl
theorem lmA_46 : Lm[46]? = some (.inr (2, 3, [])) := rfl
theorem lmA_47 : Lm[47]? = some (.inr (0, 96, [])) := rfl
theorem kvX12_186 : qv_cs RX12 186 yX12_appends cX12_appends 3 (some .long) 2 := ⟨⟨gw_ix 1219 (by decide +kernel), gw_ix 1220 (by decide +kernel), gw_ix 109 (by decide +kernel), gw_ix 1221 (by decide +kernel)⟩, by decide +kernel⟩
theorem kvX12_201 : qv_cs RX12 201 yX12_isLetter cX12_isLetter 1 (some .boolean) 1 := ⟨⟨gw_ix 1472 (by decide +kernel), gw_ix 1473 (by decide +kernel), gw_ix 109 (by decide +kernel), gw_ix 1474 (by decide +kernel)⟩, by decide +kernel⟩
theorem kvX12_205 : qv_cs RX12 205 yX12_isDigit cX12_isDigit 1 (some .boolean) 1 := ⟨⟨gw_ix 1475 (by decide +kernel), gw_ix 1476 (by decide +kernel), gw_ix 109 (by decide +kernel), gw_ix 1477 (by decide +kernel)⟩, by decide +kernel⟩
theorem kvX12_319 : qv_cs RX12 319 yX12_in cX12_in 3 (some .boolean) 3 := ⟨⟨gw_ix 1566 (by decide +kernel), gw_ix 1567 (by decide +kernel), gw_ix 109 (by decide +kernel), gw_ix 1568 (by decide +kernel)⟩, by decide +kernel⟩
theorem kvX12_327 : qv_cs RX12 327 yX12_mixed cX12_mixed 3 (some .int) 2 := ⟨⟨gw_ix 1593 (by decide +kernel), gw_ix 1594 (by decide +kernel), gw_ix 109 (by decide +kernel), gw_ix 1595 (by decide +kernel)⟩, by decide +kernel⟩
theorem kvX12_432 : qv_cs RX12 432 yX12_fives cX12_fives 3 (some .int) 1 := ⟨⟨gw_ix 1786 (by decide +kernel), gw_ix 1787 (by decide +kernel), gw_ix 109 (by decide +kernel), gw_ix 1788 (by decide +kernel)⟩, by decide +kernel⟩
theorem kvX12_450 : qv_cs RX12 450 yX12_usedBy cX12_usedBy 5 (some .int) 2 := ⟨⟨gw_ix 1797 (by decide +kernel), gw_ix 1798 (by decide +kernel), gw_ix 109 (by decide +kernel), gw_ix 1799 (by decide +kernel)⟩, by decide +kernel⟩
theorem kvX12_453 : qv_cs RX12 453 yX12_bits cX12_bits 3 (some .int) 1 := ⟨⟨gw_ix 1800 (by decide +kernel), gw_ix 1801 (by decide +kernel), gw_ix 109 (by decide +kernel), gw_ix 1802 (by decide +kernel)⟩, by decide +kernel⟩
theorem kvX12_161 : qv_cv RX12 161 yX12_plain cX12_plain 3 none 1 := ⟨⟨gw_ix 1212 (by decide +kernel), gw_ix 1214 (by decide +kernel), gw_ix 32 (by decide +kernel), gw_ix 109 (by decide +kernel), gw_ix 1215 (by decide +kernel)⟩, by decide +kernel⟩
theorem kvX12_169 : qv_cv RX12 169 yX12_begins cX12_begins 2 none 0 := ⟨⟨gw_ix 1223 (by decide +kernel), gw_ix 1225 (by decide +kernel), gw_ix 33 (by decide +kernel), gw_ix 109 (by decide +kernel), gw_ix 1226 (by decide +kernel)⟩, by decide +kernel⟩
theorem kvX12_172 : qv_cv RX12 172 yX12_keepsRow cX12_keepsRow 2 none 0 := ⟨⟨gw_ix 1227 (by decide +kernel), gw_ix 1229 (by decide +kernel), gw_ix 34 (by decide +kernel), gw_ix 109 (by decide +kernel), gw_ix 1230 (by decide +kernel)⟩, by decide +kernel⟩
theorem kvX12_178 : qv_cv RX12 178 yX12_put cX12_put 3 none 1 := ⟨⟨gw_ix 1448 (by decide +kernel), gw_ix 1450 (by decide +kernel), gw_ix 35 (by decide +kernel), gw_ix 109 (by decide +kernel), gw_ix 1451 (by decide +kernel)⟩, by decide +kernel⟩
theorem kvX12_193 : qv_cv RX12 193 yX12_byteAt cX12_byteAt 2 (some .int) 1 := ⟨⟨gw_ix 1464 (by decide +kernel), gw_ix 1466 (by decide +kernel), gw_ix 37 (by decide +kernel), gw_ix 109 (by decide +kernel), gw_ix 1467 (by decide +kernel)⟩, by decide +kernel⟩
theorem kvX12_197 : qv_cv RX12 197 yX12_token cX12_token 6 none 4 := ⟨⟨gw_ix 1468 (by decide +kernel), gw_ix 1470 (by decide +kernel), gw_ix 38 (by decide +kernel), gw_ix 109 (by decide +kernel), gw_ix 1471 (by decide +kernel)⟩, by decide +kernel⟩
theorem kvX12_208 : qv_cv RX12 208 yX12_sign cX12_sign 5 (some .int) 3 := ⟨⟨gw_ix 1478 (by decide +kernel), gw_ix 1480 (by decide +kernel), gw_ix 39 (by decide +kernel), gw_ix 109 (by decide +kernel), gw_ix 1481 (by decide +kernel)⟩, by decide +kernel⟩
theorem kvX12_227 : qv_cv RX12 227 yX12_fail cX12_fail 2 none 1 := ⟨⟨gw_ix 1494 (by decide +kernel), gw_ix 1496 (by decide +kernel), gw_ix 43 (by decide +kernel), gw_ix 109 (by decide +kernel), gw_ix 1497 (by decide +kernel)⟩, by decide +kernel⟩
theorem kvX12_230 : qv_cv RX12 230 yX12_is cX12_is 2 (some .boolean) 1 := ⟨⟨gw_ix 1482 (by decide +kernel), gw_ix 1484 (by decide +kernel), gw_ix 40 (by decide +kernel), gw_ix 109 (by decide +kernel), gw_ix 1485 (by decide +kernel)⟩, by decide +kernel⟩
theorem kvX12_233 : qv_cv RX12 233 yX12_goesOn cX12_goesOn 1 none 0 := ⟨⟨gw_ix 1498 (by decide +kernel), gw_ix 1500 (by decide +kernel), gw_ix 44 (by decide +kernel), gw_ix 109 (by decide +kernel), gw_ix 1501 (by decide +kernel)⟩, by decide +kernel⟩
theorem kvX12_236 : qv_cv RX12 236 yX12_cut cX12_cut 8 none 0 := ⟨⟨gw_ix 1460 (by decide +kernel), gw_ix 1462 (by decide +kernel), gw_ix 36 (by decide +kernel), gw_ix 109 (by decide +kernel), gw_ix 1463 (by decide +kernel)⟩, by decide +kernel⟩
theorem kvX12_257 : qv_cv RX12 257 yX12_tellOne cX12_tellOne 2 none 0 := ⟨⟨gw_ix 1486 (by decide +kernel), gw_ix 1488 (by decide +kernel), gw_ix 41 (by decide +kernel), gw_ix 109 (by decide +kernel), gw_ix 1489 (by decide +kernel)⟩, by decide +kernel⟩
theorem kvX12_266 : qv_cv RX12 266 yX12_roomFor cX12_roomFor 3 none 2 := ⟨⟨gw_ix 1490 (by decide +kernel), gw_ix 1492 (by decide +kernel), gw_ix 42 (by decide +kernel), gw_ix 109 (by decide +kernel), gw_ix 1493 (by decide +kernel)⟩, by decide +kernel⟩
theorem kvX12_270 : qv_cv RX12 270 yX12_tellNoise cX12_tellNoise 4 none 1 := ⟨⟨gw_ix 1502 (by decide +kernel), gw_ix 1504 (by decide +kernel), gw_ix 45 (by decide +kernel), gw_ix 109 (by decide +kernel), gw_ix 1505 (by decide +kernel)⟩, by decide +kernel⟩
theorem kvX12_274 : qv_cv RX12 274 yX12_named cX12_named 3 (some .int) 0 := ⟨⟨gw_ix 1506 (by decide +kernel), gw_ix 1508 (by decide +kernel), gw_ix 46 (by decide +kernel), gw_ix 109 (by decide +kernel), gw_ix 1509 (by decide +kernel)⟩, by decide +kernel⟩
theorem kvX12_278 : qv_cv RX12 278 yX12_bounded cX12_bounded 4 (some .int) 2 := ⟨⟨gw_ix 1518 (by decide +kernel), gw_ix 1520 (by decide +kernel), gw_ix 49 (by decide +kernel), gw_ix 109 (by decide +kernel), gw_ix 1521 (by decide +kernel)⟩, by decide +kernel⟩
theorem kvX12_282 : qv_cv RX12 282 yX12_ends cX12_ends 2 none 1 := ⟨⟨gw_ix 1522 (by decide +kernel), gw_ix 1524 (by decide +kernel), gw_ix 50 (by decide +kernel), gw_ix 109 (by decide +kernel), gw_ix 1525 (by decide +kernel)⟩, by decide +kernel⟩
theorem kvX12_285 : qv_cv RX12 285 yX12_tellShot cX12_tellShot 3 none 0 := ⟨⟨gw_ix 1526 (by decide +kernel), gw_ix 1528 (by decide +kernel), gw_ix 51 (by decide +kernel), gw_ix 109 (by decide +kernel), gw_ix 1529 (by decide +kernel)⟩, by decide +kernel⟩
theorem kvX12_288 : qv_cv RX12 288 yX12_must cX12_must 2 none 1 := ⟨⟨gw_ix 1510 (by decide +kernel), gw_ix 1512 (by decide +kernel), gw_ix 47 (by decide +kernel), gw_ix 109 (by decide +kernel), gw_ix 1513 (by decide +kernel)⟩, by decide +kernel⟩
theorem kvX12_291 : qv_cv RX12 291 yX12_tellLaw cX12_tellLaw 4 none 1 := ⟨⟨gw_ix 1530 (by decide +kernel), gw_ix 1532 (by decide +kernel), gw_ix 52 (by decide +kernel), gw_ix 109 (by decide +kernel), gw_ix 1533 (by decide +kernel)⟩, by decide +kernel⟩
theorem kvX12_294 : qv_cv RX12 294 yX12_wrong cX12_wrong 4 none 2 := ⟨⟨gw_ix 1514 (by decide +kernel), gw_ix 1516 (by decide +kernel), gw_ix 48 (by decide +kernel), gw_ix 109 (by decide +kernel), gw_ix 1517 (by decide +kernel)⟩, by decide +kernel⟩
theorem kvX12_297 : qv_cv RX12 297 yX12_expression cX12_expression 3 none 0 := ⟨⟨gw_ix 1534 (by decide +kernel), gw_ix 1536 (by decide +kernel), gw_ix 53 (by decide +kernel), gw_ix 109 (by decide +kernel), gw_ix 1537 (by decide +kernel)⟩, by decide +kernel⟩
theorem kvX12_300 : qv_cv RX12 300 yX12_term cX12_term 1 none 0 := ⟨⟨gw_ix 1550 (by decide +kernel), gw_ix 1552 (by decide +kernel), gw_ix 57 (by decide +kernel), gw_ix 109 (by decide +kernel), gw_ix 1553 (by decide +kernel)⟩, by decide +kernel⟩
theorem kvX12_306 : qv_cv RX12 306 yX12_emit cX12_emit 3 none 2 := ⟨⟨gw_ix 1542 (by decide +kernel), gw_ix 1544 (by decide +kernel), gw_ix 55 (by decide +kernel), gw_ix 109 (by decide +kernel), gw_ix 1545 (by decide +kernel)⟩, by decide +kernel⟩
theorem kvX12_309 : qv_cv RX12 309 yX12_unit cX12_unit 1 none 0 := ⟨⟨gw_ix 1538 (by decide +kernel), gw_ix 1540 (by decide +kernel), gw_ix 54 (by decide +kernel), gw_ix 109 (by decide +kernel), gw_ix 1541 (by decide +kernel)⟩, by decide +kernel⟩
theorem kvX12_312 : qv_cv RX12 312 yX12_comesOut cX12_comesOut 3 none 1 := ⟨⟨gw_ix 1546 (by decide +kernel), gw_ix 1548 (by decide +kernel), gw_ix 56 (by decide +kernel), gw_ix 109 (by decide +kernel), gw_ix 1549 (by decide +kernel)⟩, by decide +kernel⟩
theorem kvX12_330 : qv_cv RX12 330 yX12_termOf cX12_termOf 8 (some .int) 2 := ⟨⟨gw_ix 1637 (by decide +kernel), gw_ix 1639 (by decide +kernel), gw_ix 73 (by decide +kernel), gw_ix 109 (by decide +kernel), gw_ix 1640 (by decide +kernel)⟩, by decide +kernel⟩
theorem kvX12_333 : qv_cv RX12 333 yX12_lotOf cX12_lotOf 2 (some .int) 1 := ⟨⟨gw_ix 1589 (by decide +kernel), gw_ix 1591 (by decide +kernel), gw_ix 64 (by decide +kernel), gw_ix 109 (by decide +kernel), gw_ix 1592 (by decide +kernel)⟩, by decide +kernel⟩
theorem kvX12_336 : qv_cv RX12 336 yX12_lastBegun cX12_lastBegun 5 (some .int) 2 := ⟨⟨gw_ix 1585 (by decide +kernel), gw_ix 1587 (by decide +kernel), gw_ix 63 (by decide +kernel), gw_ix 109 (by decide +kernel), gw_ix 1588 (by decide +kernel)⟩, by decide +kernel⟩
theorem kvX12_339 : qv_cv RX12 339 yX12_ageOf cX12_ageOf 5 (some .int) 2 := ⟨⟨gw_ix 1581 (by decide +kernel), gw_ix 1583 (by decide +kernel), gw_ix 62 (by decide +kernel), gw_ix 109 (by decide +kernel), gw_ix 1584 (by decide +kernel)⟩, by decide +kernel⟩
theorem kvX12_342 : qv_cv RX12 342 yX12_looks cX12_looks 3 none 1 := ⟨⟨gw_ix 1629 (by decide +kernel), gw_ix 1631 (by decide +kernel), gw_ix 71 (by decide +kernel), gw_ix 109 (by decide +kernel), gw_ix 1632 (by decide +kernel)⟩, by decide +kernel⟩
theorem kvX12_345 : qv_cv RX12 345 yX12_asks cX12_asks 8 (some .int) 3 := ⟨⟨gw_ix 1633 (by decide +kernel), gw_ix 1635 (by decide +kernel), gw_ix 72 (by decide +kernel), gw_ix 109 (by decide +kernel), gw_ix 1636 (by decide +kernel)⟩, by decide +kernel⟩
theorem kvX12_348 : qv_cv RX12 348 yX12_ageNow cX12_ageNow 3 (some .int) 2 := ⟨⟨gw_ix 1577 (by decide +kernel), gw_ix 1579 (by decide +kernel), gw_ix 61 (by decide +kernel), gw_ix 109 (by decide +kernel), gw_ix 1580 (by decide +kernel)⟩, by decide +kernel⟩
theorem kvX12_351 : qv_cv RX12 351 yX12_heardBy cX12_heardBy 6 (some .int) 4 := ⟨⟨gw_ix 1625 (by decide +kernel), gw_ix 1627 (by decide +kernel), gw_ix 70 (by decide +kernel), gw_ix 109 (by decide +kernel), gw_ix 1628 (by decide +kernel)⟩, by decide +kernel⟩
theorem kvX12_355 : qv_cv RX12 355 yX12_heardNow cX12_heardNow 4 (some .int) 3 := ⟨⟨gw_ix 1621 (by decide +kernel), gw_ix 1623 (by decide +kernel), gw_ix 69 (by decide +kernel), gw_ix 109 (by decide +kernel), gw_ix 1624 (by decide +kernel)⟩, by decide +kernel⟩
theorem kvX12_359 : qv_cv RX12 359 yX12_mostHeard cX12_mostHeard 6 (some .int) 2 := ⟨⟨gw_ix 1649 (by decide +kernel), gw_ix 1651 (by decide +kernel), gw_ix 75 (by decide +kernel), gw_ix 109 (by decide +kernel), gw_ix 1652 (by decide +kernel)⟩, by decide +kernel⟩
theorem kvX12_362 : qv_cv RX12 362 yX12_rustling cX12_rustling 2 (some .int) 1 := ⟨⟨gw_ix 1653 (by decide +kernel), gw_ix 1655 (by decide +kernel), gw_ix 76 (by decide +kernel), gw_ix 109 (by decide +kernel), gw_ix 1656 (by decide +kernel)⟩, by decide +kernel⟩
theorem kvX12_365 : qv_cv RX12 365 yX12_loudIn cX12_loudIn 5 (some .int) 2 := ⟨⟨gw_ix 1645 (by decide +kernel), gw_ix 1647 (by decide +kernel), gw_ix 74 (by decide +kernel), gw_ix 109 (by decide +kernel), gw_ix 1648 (by decide +kernel)⟩, by decide +kernel⟩
theorem kvX12_368 : qv_cv RX12 368 yX12_longFor cX12_longFor 2 (some .int) 1 := ⟨⟨gw_ix 1605 (by decide +kernel), gw_ix 1607 (by decide +kernel), gw_ix 66 (by decide +kernel), gw_ix 109 (by decide +kernel), gw_ix 1608 (by decide +kernel)⟩, by decide +kernel⟩
theorem kvX12_371 : qv_cv RX12 371 yX12_bearsIn cX12_bearsIn 4 (some .int) 3 := ⟨⟨gw_ix 1662 (by decide +kernel), gw_ix 1664 (by decide +kernel), gw_ix 77 (by decide +kernel), gw_ix 109 (by decide +kernel), gw_ix 1665 (by decide +kernel)⟩, by decide +kernel⟩
theorem kvX12_374 : qv_cv RX12 374 yX12_clearFrom cX12_clearFrom 5 (some .int) 2 := ⟨⟨gw_ix 1674 (by decide +kernel), gw_ix 1676 (by decide +kernel), gw_ix 79 (by decide +kernel), gw_ix 109 (by decide +kernel), gw_ix 1677 (by decide +kernel)⟩, by decide +kernel⟩
theorem kvX12_377 : qv_cv RX12 377 yX12_isWhole cX12_isWhole 3 (some .boolean) 2 := ⟨⟨gw_ix 1609 (by decide +kernel), gw_ix 1611 (by decide +kernel), gw_ix 67 (by decide +kernel), gw_ix 109 (by decide +kernel), gw_ix 1612 (by decide +kernel)⟩, by decide +kernel⟩
theorem kvX12_381 : qv_cv RX12 381 yX12_isNoise cX12_isNoise 2 (some .boolean) 1 := ⟨⟨gw_ix 1562 (by decide +kernel), gw_ix 1564 (by decide +kernel), gw_ix 58 (by decide +kernel), gw_ix 109 (by decide +kernel), gw_ix 1565 (by decide +kernel)⟩, by decide +kernel⟩
theorem kvX12_384 : qv_cv RX12 384 yX12_copies cX12_copies 2 none 0 := ⟨⟨gw_ix 1569 (by decide +kernel), gw_ix 1571 (by decide +kernel), gw_ix 59 (by decide +kernel), gw_ix 109 (by decide +kernel), gw_ix 1572 (by decide +kernel)⟩, by decide +kernel⟩
theorem kvX12_387 : qv_cv RX12 387 yX12_isOn cX12_isOn 2 (some .int) 1 := ⟨⟨gw_ix 1573 (by decide +kernel), gw_ix 1575 (by decide +kernel), gw_ix 60 (by decide +kernel), gw_ix 109 (by decide +kernel), gw_ix 1576 (by decide +kernel)⟩, by decide +kernel⟩
theorem kvX12_390 : qv_cv RX12 390 yX12_isShot cX12_isShot 2 (some .boolean) 1 := ⟨⟨gw_ix 1601 (by decide +kernel), gw_ix 1603 (by decide +kernel), gw_ix 65 (by decide +kernel), gw_ix 109 (by decide +kernel), gw_ix 1604 (by decide +kernel)⟩, by decide +kernel⟩
theorem kvX12_393 : qv_cv RX12 393 yX12_isPlace cX12_isPlace 2 (some .boolean) 1 := ⟨⟨gw_ix 1617 (by decide +kernel), gw_ix 1619 (by decide +kernel), gw_ix 68 (by decide +kernel), gw_ix 109 (by decide +kernel), gw_ix 1620 (by decide +kernel)⟩, by decide +kernel⟩
theorem kvX12_396 : qv_cv RX12 396 yX12_fillsLoud cX12_fillsLoud 4 none 2 := ⟨⟨gw_ix 1670 (by decide +kernel), gw_ix 1672 (by decide +kernel), gw_ix 78 (by decide +kernel), gw_ix 109 (by decide +kernel), gw_ix 1673 (by decide +kernel)⟩, by decide +kernel⟩
theorem kvX12_399 : qv_cv RX12 399 yX12_stands cX12_stands 2 none 1 := ⟨⟨gw_ix 1678 (by decide +kernel), gw_ix 1680 (by decide +kernel), gw_ix 80 (by decide +kernel), gw_ix 109 (by decide +kernel), gw_ix 1681 (by decide +kernel)⟩, by decide +kernel⟩
theorem kvX12_402 : qv_cv RX12 402 yX12_keeps cX12_keeps 2 none 0 := ⟨⟨gw_ix 1682 (by decide +kernel), gw_ix 1684 (by decide +kernel), gw_ix 81 (by decide +kernel), gw_ix 109 (by decide +kernel), gw_ix 1685 (by decide +kernel)⟩, by decide +kernel⟩
theorem kvX12_405 : qv_cv RX12 405 yX12_pays cX12_pays 3 none 2 := ⟨⟨gw_ix 1702 (by decide +kernel), gw_ix 1704 (by decide +kernel), gw_ix 82 (by decide +kernel), gw_ix 109 (by decide +kernel), gw_ix 1705 (by decide +kernel)⟩, by decide +kernel⟩
theorem kvX12_408 : qv_cv RX12 408 yX12_isAsked cX12_isAsked 3 (some .boolean) 2 := ⟨⟨gw_ix 1714 (by decide +kernel), gw_ix 1716 (by decide +kernel), gw_ix 83 (by decide +kernel), gw_ix 109 (by decide +kernel), gw_ix 1717 (by decide +kernel)⟩, by decide +kernel⟩
theorem kvX12_411 : qv_cv RX12 411 yX12_isHole cX12_isHole 5 (some .boolean) 3 := ⟨⟨gw_ix 1718 (by decide +kernel), gw_ix 1720 (by decide +kernel), gw_ix 84 (by decide +kernel), gw_ix 109 (by decide +kernel), gw_ix 1721 (by decide +kernel)⟩, by decide +kernel⟩
theorem kvX12_414 : qv_cv RX12 414 yX12_mostIn cX12_mostIn 5 (some .int) 2 := ⟨⟨gw_ix 1730 (by decide +kernel), gw_ix 1732 (by decide +kernel), gw_ix 85 (by decide +kernel), gw_ix 109 (by decide +kernel), gw_ix 1733 (by decide +kernel)⟩, by decide +kernel⟩
theorem kvX12_417 : qv_cv RX12 417 yX12_isLoudest cX12_isLoudest 7 (some .boolean) 3 := ⟨⟨gw_ix 1742 (by decide +kernel), gw_ix 1744 (by decide +kernel), gw_ix 86 (by decide +kernel), gw_ix 109 (by decide +kernel), gw_ix 1745 (by decide +kernel)⟩, by decide +kernel⟩
theorem kvX12_420 : qv_cv RX12 420 yX12_isGood cX12_isGood 3 (some .boolean) 2 := ⟨⟨gw_ix 1766 (by decide +kernel), gw_ix 1768 (by decide +kernel), gw_ix 88 (by decide +kernel), gw_ix 109 (by decide +kernel), gw_ix 1769 (by decide +kernel)⟩, by decide +kernel⟩
theorem kvX12_423 : qv_cv RX12 423 yX12_soonest cX12_soonest 4 (some .int) 2 := ⟨⟨gw_ix 1762 (by decide +kernel), gw_ix 1764 (by decide +kernel), gw_ix 87 (by decide +kernel), gw_ix 109 (by decide +kernel), gw_ix 1765 (by decide +kernel)⟩, by decide +kernel⟩
theorem kvX12_429 : qv_cv RX12 429 yX12_findsDue cX12_findsDue 2 none 0 := ⟨⟨gw_ix 1774 (by decide +kernel), gw_ix 1776 (by decide +kernel), gw_ix 89 (by decide +kernel), gw_ix 109 (by decide +kernel), gw_ix 1777 (by decide +kernel)⟩, by decide +kernel⟩
theorem kvX12_435 : qv_cv RX12 435 yX12_fillsDue cX12_fillsDue 4 none 0 := ⟨⟨gw_ix 1782 (by decide +kernel), gw_ix 1784 (by decide +kernel), gw_ix 91 (by decide +kernel), gw_ix 109 (by decide +kernel), gw_ix 1785 (by decide +kernel)⟩, by decide +kernel⟩
theorem kvX12_441 : qv_cv RX12 441 yX12_endBy cX12_endBy 9 (some .int) 2 := ⟨⟨gw_ix 1789 (by decide +kernel), gw_ix 1791 (by decide +kernel), gw_ix 92 (by decide +kernel), gw_ix 109 (by decide +kernel), gw_ix 1792 (by decide +kernel)⟩, by decide +kernel⟩
theorem kvX12_447 : qv_cv RX12 447 yX12_fillsOrder cX12_fillsOrder 3 none 0 := ⟨⟨gw_ix 1778 (by decide +kernel), gw_ix 1780 (by decide +kernel), gw_ix 90 (by decide +kernel), gw_ix 109 (by decide +kernel), gw_ix 1781 (by decide +kernel)⟩, by decide +kernel⟩
theorem kvX12_456 : qv_cv RX12 456 yX12_shotsOf cX12_shotsOf 4 (some .int) 1 := ⟨⟨gw_ix 1803 (by decide +kernel), gw_ix 1805 (by decide +kernel), gw_ix 93 (by decide +kernel), gw_ix 109 (by decide +kernel), gw_ix 1806 (by decide +kernel)⟩, by decide +kernel⟩
theorem kvX12_459 : qv_cv RX12 459 yX12_isSo cX12_isSo 4 (some .boolean) 2 := ⟨⟨gw_ix 1839 (by decide +kernel), gw_ix 1841 (by decide +kernel), gw_ix 94 (by decide +kernel), gw_ix 109 (by decide +kernel), gw_ix 1842 (by decide +kernel)⟩, by decide +kernel⟩
theorem kcX12_326 : Cond.constant RX12 326 1103515245 ∈ gw_tbl := gw_ix 1596 (by decide +kernel)
theorem kcX12_358 : Cond.constant RX12 358 4000000 ∈ gw_tbl := gw_ix 1657 (by decide +kernel)
theorem kcX12_184 : Cond.constantLong RX12 184 27 ∈ gw_tbl := gw_ix 1222 (by decide +kernel)
theorem kfX12_101 : Cond.fieldLink RX12 101 (TX12 42).1 (TX12 42).2.1 (TX12 42).2.2.1 ∈ gw_tbl := gw_ix 1272 (by decide +kernel)
theorem kfX12_104 : Cond.fieldLink RX12 104 (TX12 43).1 (TX12 43).2.1 (TX12 43).2.2.1 ∈ gw_tbl := gw_ix 1273 (by decide +kernel)
theorem kfX12_107 : Cond.fieldLink RX12 107 (TX12 44).1 (TX12 44).2.1 (TX12 44).2.2.1 ∈ gw_tbl := gw_ix 1274 (by decide +kernel)
theorem kfX12_110 : Cond.fieldLink RX12 110 (TX12 46).1 (TX12 46).2.1 (TX12 46).2.2.1 ∈ gw_tbl := gw_ix 1276 (by decide +kernel)
theorem kfX12_113 : Cond.fieldLink RX12 113 (TX12 47).1 (TX12 47).2.1 (TX12 47).2.2.1 ∈ gw_tbl := gw_ix 1277 (by decide +kernel)
theorem kfX12_116 : Cond.fieldLink RX12 116 (TX12 48).1 (TX12 48).2.1 (TX12 48).2.2.1 ∈ gw_tbl := gw_ix 1278 (by decide +kernel)
theorem kfX12_119 : Cond.fieldLink RX12 119 (TX12 50).1 (TX12 50).2.1 (TX12 50).2.2.1 ∈ gw_tbl := gw_ix 1280 (by decide +kernel)
theorem kfX12_122 : Cond.fieldLink RX12 122 (TX12 51).1 (TX12 51).2.1 (TX12 51).2.2.1 ∈ gw_tbl := gw_ix 1281 (by decide +kernel)
theorem kfX12_125 : Cond.fieldLink RX12 125 (TX12 53).1 (TX12 53).2.1 (TX12 53).2.2.1 ∈ gw_tbl := gw_ix 1283 (by decide +kernel)
theorem kfX12_128 : Cond.fieldLink RX12 128 (TX12 54).1 (TX12 54).2.1 (TX12 54).2.2.1 ∈ gw_tbl := gw_ix 1284 (by decide +kernel)
theorem kfX12_13 : Cond.fieldLink RX12 13 (TX12 1).1 (TX12 1).2.1 (TX12 1).2.2.1 ∈ gw_tbl := gw_ix 1231 (by decide +kernel)
theorem kfX12_131 : Cond.fieldLink RX12 131 (TX12 56).1 (TX12 56).2.1 (TX12 56).2.2.1 ∈ gw_tbl := gw_ix 1286 (by decide +kernel)
theorem kfX12_134 : Cond.fieldLink RX12 134 (TX12 58).1 (TX12 58).2.1 (TX12 58).2.2.1 ∈ gw_tbl := gw_ix 1288 (by decide +kernel)
theorem kfX12_137 : Cond.fieldLink RX12 137 (TX12 59).1 (TX12 59).2.1 (TX12 59).2.2.1 ∈ gw_tbl := gw_ix 1289 (by decide +kernel)
theorem kfX12_140 : Cond.fieldLink RX12 140 (TX12 61).1 (TX12 61).2.1 (TX12 61).2.2.1 ∈ gw_tbl := gw_ix 1291 (by decide +kernel)
theorem kfX12_143 : Cond.fieldLink RX12 143 (TX12 64).1 (TX12 64).2.1 (TX12 64).2.2.1 ∈ gw_tbl := gw_ix 1294 (by decide +kernel)
theorem kfX12_146 : Cond.fieldLink RX12 146 (TX12 66).1 (TX12 66).2.1 (TX12 66).2.2.1 ∈ gw_tbl := gw_ix 1296 (by decide +kernel)
theorem kfX12_149 : Cond.fieldLink RX12 149 (TX12 67).1 (TX12 67).2.1 (TX12 67).2.2.1 ∈ gw_tbl := gw_ix 1297 (by decide +kernel)
theorem kfX12_152 : Cond.fieldLink RX12 152 (TX12 68).1 (TX12 68).2.1 (TX12 68).2.2.1 ∈ gw_tbl := gw_ix 1298 (by decide +kernel)
theorem kfX12_155 : Cond.fieldLink RX12 155 (TX12 69).1 (TX12 69).2.1 (TX12 69).2.2.1 ∈ gw_tbl := gw_ix 1299 (by decide +kernel)
theorem kfX12_158 : Cond.fieldLink RX12 158 (TX12 70).1 (TX12 70).2.1 (TX12 70).2.2.1 ∈ gw_tbl := gw_ix 1300 (by decide +kernel)
theorem kfX12_17 : Cond.fieldLink RX12 17 (TX12 3).1 (TX12 3).2.1 (TX12 3).2.2.1 ∈ gw_tbl := gw_ix 1233 (by decide +kernel)
theorem kfX12_175 : Cond.fieldLink RX12 175 (TX12 2).1 (TX12 2).2.1 (TX12 2).2.2.1 ∈ gw_tbl := gw_ix 1232 (by decide +kernel)
theorem kfX12_181 : Cond.fieldLink RX12 181 (TX12 4).1 (TX12 4).2.1 (TX12 4).2.2.1 ∈ gw_tbl := gw_ix 1234 (by decide +kernel)
theorem kfX12_190 : Cond.fieldLink RX12 190 (TX12 10).1 (TX12 10).2.1 (TX12 10).2.2.1 ∈ gw_tbl := gw_ix 1240 (by decide +kernel)
theorem kfX12_20 : Cond.fieldLink RX12 20 (TX12 5).1 (TX12 5).2.1 (TX12 5).2.2.1 ∈ gw_tbl := gw_ix 1235 (by decide +kernel)
theorem kfX12_212 : Cond.fieldLink RX12 212 (TX12 13).1 (TX12 13).2.1 (TX12 13).2.2.1 ∈ gw_tbl := gw_ix 1243 (by decide +kernel)
theorem kfX12_215 : Cond.fieldLink RX12 215 (TX12 11).1 (TX12 11).2.1 (TX12 11).2.2.1 ∈ gw_tbl := gw_ix 1241 (by decide +kernel)
theorem kfX12_218 : Cond.fieldLink RX12 218 (TX12 14).1 (TX12 14).2.1 (TX12 14).2.2.1 ∈ gw_tbl := gw_ix 1244 (by decide +kernel)
theorem kfX12_221 : Cond.fieldLink RX12 221 (TX12 15).1 (TX12 15).2.1 (TX12 15).2.2.1 ∈ gw_tbl := gw_ix 1245 (by decide +kernel)
theorem kfX12_224 : Cond.fieldLink RX12 224 (TX12 16).1 (TX12 16).2.1 (TX12 16).2.2.1 ∈ gw_tbl := gw_ix 1246 (by decide +kernel)
theorem kfX12_239 : Cond.fieldLink RX12 239 (TX12 12).1 (TX12 12).2.1 (TX12 12).2.2.1 ∈ gw_tbl := gw_ix 1242 (by decide +kernel)
theorem kfX12_24 : Cond.fieldLink RX12 24 (TX12 6).1 (TX12 6).2.1 (TX12 6).2.2.1 ∈ gw_tbl := gw_ix 1236 (by decide +kernel)
theorem kfX12_242 : Cond.fieldLink RX12 242 (TX12 18).1 (TX12 18).2.1 (TX12 18).2.2.1 ∈ gw_tbl := gw_ix 1248 (by decide +kernel)
theorem kfX12_245 : Cond.fieldLink RX12 245 (TX12 19).1 (TX12 19).2.1 (TX12 19).2.2.1 ∈ gw_tbl := gw_ix 1249 (by decide +kernel)
theorem kfX12_248 : Cond.fieldLink RX12 248 (TX12 20).1 (TX12 20).2.1 (TX12 20).2.2.1 ∈ gw_tbl := gw_ix 1250 (by decide +kernel)
theorem kfX12_251 : Cond.fieldLink RX12 251 (TX12 39).1 (TX12 39).2.1 (TX12 39).2.2.1 ∈ gw_tbl := gw_ix 1269 (by decide +kernel)
theorem kfX12_254 : Cond.fieldLink RX12 254 (TX12 45).1 (TX12 45).2.1 (TX12 45).2.2.1 ∈ gw_tbl := gw_ix 1275 (by decide +kernel)
theorem kfX12_260 : Cond.fieldLink RX12 260 (TX12 57).1 (TX12 57).2.1 (TX12 57).2.2.1 ∈ gw_tbl := gw_ix 1287 (by decide +kernel)
theorem kfX12_263 : Cond.fieldLink RX12 263 (TX12 65).1 (TX12 65).2.1 (TX12 65).2.2.1 ∈ gw_tbl := gw_ix 1295 (by decide +kernel)
theorem kfX12_27 : Cond.fieldLink RX12 27 (TX12 7).1 (TX12 7).2.1 (TX12 7).2.2.1 ∈ gw_tbl := gw_ix 1237 (by decide +kernel)
theorem kfX12_30 : Cond.fieldLink RX12 30 (TX12 8).1 (TX12 8).2.1 (TX12 8).2.2.1 ∈ gw_tbl := gw_ix 1238 (by decide +kernel)
theorem kfX12_303 : Cond.fieldLink RX12 303 (TX12 49).1 (TX12 49).2.1 (TX12 49).2.2.1 ∈ gw_tbl := gw_ix 1279 (by decide +kernel)
theorem kfX12_315 : Cond.fieldLink RX12 315 (TX12 52).1 (TX12 52).2.1 (TX12 52).2.2.1 ∈ gw_tbl := gw_ix 1282 (by decide +kernel)
theorem kfX12_323 : Cond.fieldLink RX12 323 (TX12 55).1 (TX12 55).2.1 (TX12 55).2.2.1 ∈ gw_tbl := gw_ix 1285 (by decide +kernel)
theorem kfX12_34 : Cond.fieldLink RX12 34 (TX12 9).1 (TX12 9).2.1 (TX12 9).2.2.1 ∈ gw_tbl := gw_ix 1239 (by decide +kernel)
theorem kfX12_37 : Cond.fieldLink RX12 37 (TX12 17).1 (TX12 17).2.1 (TX12 17).2.2.1 ∈ gw_tbl := gw_ix 1247 (by decide +kernel)
theorem kfX12_40 : Cond.fieldLink RX12 40 (TX12 21).1 (TX12 21).2.1 (TX12 21).2.2.1 ∈ gw_tbl := gw_ix 1251 (by decide +kernel)
theorem kfX12_426 : Cond.fieldLink RX12 426 (TX12 60).1 (TX12 60).2.1 (TX12 60).2.2.1 ∈ gw_tbl := gw_ix 1290 (by decide +kernel)
theorem kfX12_43 : Cond.fieldLink RX12 43 (TX12 22).1 (TX12 22).2.1 (TX12 22).2.2.1 ∈ gw_tbl := gw_ix 1252 (by decide +kernel)
theorem kfX12_438 : Cond.fieldLink RX12 438 (TX12 63).1 (TX12 63).2.1 (TX12 63).2.2.1 ∈ gw_tbl := gw_ix 1293 (by decide +kernel)
theorem kfX12_444 : Cond.fieldLink RX12 444 (TX12 62).1 (TX12 62).2.1 (TX12 62).2.2.1 ∈ gw_tbl := gw_ix 1292 (by decide +kernel)
theorem kfX12_46 : Cond.fieldLink RX12 46 (TX12 23).1 (TX12 23).2.1 (TX12 23).2.2.1 ∈ gw_tbl := gw_ix 1253 (by decide +kernel)
theorem kfX12_50 : Cond.fieldLink RX12 50 (TX12 24).1 (TX12 24).2.1 (TX12 24).2.2.1 ∈ gw_tbl := gw_ix 1254 (by decide +kernel)
theorem kfX12_53 : Cond.fieldLink RX12 53 (TX12 25).1 (TX12 25).2.1 (TX12 25).2.2.1 ∈ gw_tbl := gw_ix 1255 (by decide +kernel)
theorem kfX12_56 : Cond.fieldLink RX12 56 (TX12 26).1 (TX12 26).2.1 (TX12 26).2.2.1 ∈ gw_tbl := gw_ix 1256 (by decide +kernel)
theorem kfX12_59 : Cond.fieldLink RX12 59 (TX12 27).1 (TX12 27).2.1 (TX12 27).2.2.1 ∈ gw_tbl := gw_ix 1257 (by decide +kernel)
theorem kfX12_62 : Cond.fieldLink RX12 62 (TX12 28).1 (TX12 28).2.1 (TX12 28).2.2.1 ∈ gw_tbl := gw_ix 1258 (by decide +kernel)
theorem kfX12_65 : Cond.fieldLink RX12 65 (TX12 29).1 (TX12 29).2.1 (TX12 29).2.2.1 ∈ gw_tbl := gw_ix 1259 (by decide +kernel)
theorem kfX12_68 : Cond.fieldLink RX12 68 (TX12 30).1 (TX12 30).2.1 (TX12 30).2.2.1 ∈ gw_tbl := gw_ix 1260 (by decide +kernel)
theorem kfX12_71 : Cond.fieldLink RX12 71 (TX12 31).1 (TX12 31).2.1 (TX12 31).2.2.1 ∈ gw_tbl := gw_ix 1261 (by decide +kernel)
theorem kfX12_74 : Cond.fieldLink RX12 74 (TX12 32).1 (TX12 32).2.1 (TX12 32).2.2.1 ∈ gw_tbl := gw_ix 1262 (by decide +kernel)
theorem kfX12_77 : Cond.fieldLink RX12 77 (TX12 33).1 (TX12 33).2.1 (TX12 33).2.2.1 ∈ gw_tbl := gw_ix 1263 (by decide +kernel)
theorem kfX12_80 : Cond.fieldLink RX12 80 (TX12 34).1 (TX12 34).2.1 (TX12 34).2.2.1 ∈ gw_tbl := gw_ix 1264 (by decide +kernel)
theorem kfX12_83 : Cond.fieldLink RX12 83 (TX12 35).1 (TX12 35).2.1 (TX12 35).2.2.1 ∈ gw_tbl := gw_ix 1265 (by decide +kernel)
theorem kfX12_86 : Cond.fieldLink RX12 86 (TX12 36).1 (TX12 36).2.1 (TX12 36).2.2.1 ∈ gw_tbl := gw_ix 1266 (by decide +kernel)
theorem kfX12_89 : Cond.fieldLink RX12 89 (TX12 37).1 (TX12 37).2.1 (TX12 37).2.2.1 ∈ gw_tbl := gw_ix 1267 (by decide +kernel)
theorem kfX12_92 : Cond.fieldLink RX12 92 (TX12 38).1 (TX12 38).2.1 (TX12 38).2.2.1 ∈ gw_tbl := gw_ix 1268 (by decide +kernel)
theorem kfX12_95 : Cond.fieldLink RX12 95 (TX12 40).1 (TX12 40).2.1 (TX12 40).2.2.1 ∈ gw_tbl := gw_ix 1270 (by decide +kernel)
theorem kfX12_98 : Cond.fieldLink RX12 98 (TX12 41).1 (TX12 41).2.1 (TX12 41).2.2.1 ∈ gw_tbl := gw_ix 1271 (by decide +kernel)
