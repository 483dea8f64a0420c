/-! the methods: what the tables say of each, and of each link -/
def m_X7_write : pw_M := (7, cX7_write, 2, (some .int))
theorem k_X7_write : pw_okV yX7_write m_X7_write 1 := ⟨⟨pw_tb_in (i := 67) (by decide +kernel) rfl, pw_tb_in (i := 359) (by decide +kernel) rfl, by decide +kernel, by decide⟩, pw_tb_in (i := 357) (by decide +kernel) rfl, pw_tb_in (i := 358) (by decide +kernel) rfl⟩
def m_X3_add : pw_M := (3, cX3_add, 2, none)
theorem k_X3_add : pw_okV yX3_add m_X3_add 1 := ⟨⟨pw_tb_in (i := 69) (by decide +kernel) rfl, pw_tb_in (i := 363) (by decide +kernel) rfl, by decide +kernel, by decide⟩, pw_tb_in (i := 361) (by decide +kernel) rfl, pw_tb_in (i := 362) (by decide +kernel) rfl⟩
def m_X7_erase : pw_M := (7, cX7_erase, 2, (some .int))
theorem k_X7_erase : pw_okV yX7_erase m_X7_erase 0 := ⟨⟨pw_tb_in (i := 67) (by decide +kernel) rfl, pw_tb_in (i := 367) (by decide +kernel) rfl, by decide +kernel, by decide⟩, pw_tb_in (i := 365) (by decide +kernel) rfl, pw_tb_in (i := 366) (by decide +kernel) rfl⟩
def m_X7_fault : pw_M := (7, cX7_fault, 1, (some .int))
theorem k_X7_fault : pw_okV yX7_fault m_X7_fault 0 := ⟨⟨pw_tb_in (i := 67) (by decide +kernel) rfl, pw_tb_in (i := 371) (by decide +kernel) rfl, by decide +kernel, by decide⟩, pw_tb_in (i := 369) (by decide +kernel) rfl, pw_tb_in (i := 370) (by decide +kernel) rfl⟩
def m_X2_read : pw_M := (2, cX2_read, 4, (some .int))
theorem k_X2_read : pw_okV yX2_read m_X2_read 2 := ⟨⟨pw_tb_in (i := 68) (by decide +kernel) rfl, pw_tb_in (i := 375) (by decide +kernel) rfl, by decide +kernel, by decide⟩, pw_tb_in (i := 373) (by decide +kernel) rfl, pw_tb_in (i := 374) (by decide +kernel) rfl⟩
def m_X3_rewind : pw_M := (3, cX3_rewind, 1, none)
theorem k_X3_rewind : pw_okV yX3_rewind m_X3_rewind 0 := ⟨⟨pw_tb_in (i := 69) (by decide +kernel) rfl, pw_tb_in (i := 379) (by decide +kernel) rfl, by decide +kernel, by decide⟩, pw_tb_in (i := 377) (by decide +kernel) rfl, pw_tb_in (i := 378) (by decide +kernel) rfl⟩
def m_X2_readClause : pw_M := (2, cX2_readClause, 2, (some .boolean))
theorem k_X2_readClause : pw_okV yX2_readClause m_X2_readClause 0 := ⟨⟨pw_tb_in (i := 68) (by decide +kernel) rfl, pw_tb_in (i := 383) (by decide +kernel) rfl, by decide +kernel, by decide⟩, pw_tb_in (i := 382) (by decide +kernel) rfl, pw_tb_in (i := 0) (by decide +kernel) rfl⟩
def m_X3_advance : pw_M := (3, cX3_advance, 2, none)
theorem k_X3_advance : pw_okV yX3_advance m_X3_advance 0 := ⟨⟨pw_tb_in (i := 69) (by decide +kernel) rfl, pw_tb_in (i := 387) (by decide +kernel) rfl, by decide +kernel, by decide⟩, pw_tb_in (i := 385) (by decide +kernel) rfl, pw_tb_in (i := 386) (by decide +kernel) rfl⟩
def m_X3_tokenOf : pw_M := (3, cX3_tokenOf, 1, (some .int))
theorem k_X3_tokenOf : pw_okS yX3_tokenOf m_X3_tokenOf 1 := ⟨⟨pw_tb_in (i := 69) (by decide +kernel) rfl, pw_tb_in (i := 390) (by decide +kernel) rfl, by decide +kernel, by decide⟩, pw_tb_in (i := 389) (by decide +kernel) rfl⟩
def m_X2_wordThatStandsHere : pw_M := (2, cX2_wordThatStandsHere, 5, (some .int))
theorem k_X2_wordThatStandsHere : pw_okV yX2_wordThatStandsHere m_X2_wordThatStandsHere 0 := ⟨⟨pw_tb_in (i := 68) (by decide +kernel) rfl, pw_tb_in (i := 394) (by decide +kernel) rfl, by decide +kernel, by decide⟩, pw_tb_in (i := 393) (by decide +kernel) rfl, pw_tb_in (i := 1) (by decide +kernel) rfl⟩
def m_X2_isKnightWord : pw_M := (2, cX2_isKnightWord, 1, (some .boolean))
theorem k_X2_isKnightWord : pw_okS yX2_isKnightWord m_X2_isKnightWord 1 := ⟨⟨pw_tb_in (i := 68) (by decide +kernel) rfl, pw_tb_in (i := 399) (by decide +kernel) rfl, by decide +kernel, by decide⟩, pw_tb_in (i := 398) (by decide +kernel) rfl⟩
def m_X2_numbersBehind : pw_M := (2, cX2_numbersBehind, 1, (some .int))
theorem k_X2_numbersBehind : pw_okS yX2_numbersBehind m_X2_numbersBehind 1 := ⟨⟨pw_tb_in (i := 68) (by decide +kernel) rfl, pw_tb_in (i := 402) (by decide +kernel) rfl, by decide +kernel, by decide⟩, pw_tb_in (i := 401) (by decide +kernel) rfl⟩
def m_X3_number : pw_M := (3, cX3_number, 3, (some .int))
theorem k_X3_number : pw_okV yX3_number m_X3_number 0 := ⟨⟨pw_tb_in (i := 69) (by decide +kernel) rfl, pw_tb_in (i := 406) (by decide +kernel) rfl, by decide +kernel, by decide⟩, pw_tb_in (i := 404) (by decide +kernel) rfl, pw_tb_in (i := 405) (by decide +kernel) rfl⟩
def m_X2_leastNumber : pw_M := (2, cX2_leastNumber, 1, (some .int))
theorem k_X2_leastNumber : pw_okS yX2_leastNumber m_X2_leastNumber 1 := ⟨⟨pw_tb_in (i := 68) (by decide +kernel) rfl, pw_tb_in (i := 409) (by decide +kernel) rfl, by decide +kernel, by decide⟩, pw_tb_in (i := 408) (by decide +kernel) rfl⟩
def m_X2_mostFirst : pw_M := (2, cX2_mostFirst, 2, (some .int))
theorem k_X2_mostFirst : pw_okV yX2_mostFirst m_X2_mostFirst 1 := ⟨⟨pw_tb_in (i := 68) (by decide +kernel) rfl, pw_tb_in (i := 413) (by decide +kernel) rfl, by decide +kernel, by decide⟩, pw_tb_in (i := 412) (by decide +kernel) rfl, pw_tb_in (i := 2) (by decide +kernel) rfl⟩
def m_X2_mostSecond : pw_M := (2, cX2_mostSecond, 2, (some .int))
theorem k_X2_mostSecond : pw_okV yX2_mostSecond m_X2_mostSecond 1 := ⟨⟨pw_tb_in (i := 68) (by decide +kernel) rfl, pw_tb_in (i := 417) (by decide +kernel) rfl, by decide +kernel, by decide⟩, pw_tb_in (i := 416) (by decide +kernel) rfl, pw_tb_in (i := 3) (by decide +kernel) rfl⟩
def m_X2_tally : pw_M := (2, cX2_tally, 1, none)
theorem k_X2_tally : pw_okV yX2_tally m_X2_tally 0 := ⟨⟨pw_tb_in (i := 68) (by decide +kernel) rfl, pw_tb_in (i := 421) (by decide +kernel) rfl, by decide +kernel, by decide⟩, pw_tb_in (i := 420) (by decide +kernel) rfl, pw_tb_in (i := 4) (by decide +kernel) rfl⟩
def m_X5_obey : pw_M := (5, cX5_obey, 4, none)
theorem k_X5_obey : pw_okV yX5_obey m_X5_obey 3 := ⟨⟨pw_tb_in (i := 70) (by decide +kernel) rfl, pw_tb_in (i := 425) (by decide +kernel) rfl, by decide +kernel, by decide⟩, pw_tb_in (i := 423) (by decide +kernel) rfl, pw_tb_in (i := 424) (by decide +kernel) rfl⟩
def m_X5_layTable : pw_M := (5, cX5_layTable, 3, none)
theorem k_X5_layTable : pw_okV yX5_layTable m_X5_layTable 1 := ⟨⟨pw_tb_in (i := 70) (by decide +kernel) rfl, pw_tb_in (i := 429) (by decide +kernel) rfl, by decide +kernel, by decide⟩, pw_tb_in (i := 428) (by decide +kernel) rfl, pw_tb_in (i := 5) (by decide +kernel) rfl⟩
def m_X5_makePeace : pw_M := (5, cX5_makePeace, 2, none)
theorem k_X5_makePeace : pw_okV yX5_makePeace m_X5_makePeace 0 := ⟨⟨pw_tb_in (i := 70) (by decide +kernel) rfl, pw_tb_in (i := 433) (by decide +kernel) rfl, by decide +kernel, by decide⟩, pw_tb_in (i := 432) (by decide +kernel) rfl, pw_tb_in (i := 6) (by decide +kernel) rfl⟩
def m_X5_nameSeat : pw_M := (5, cX5_nameSeat, 4, none)
theorem k_X5_nameSeat : pw_okV yX5_nameSeat m_X5_nameSeat 3 := ⟨⟨pw_tb_in (i := 70) (by decide +kernel) rfl, pw_tb_in (i := 437) (by decide +kernel) rfl, by decide +kernel, by decide⟩, pw_tb_in (i := 436) (by decide +kernel) rfl, pw_tb_in (i := 7) (by decide +kernel) rfl⟩
def m_X5_addKnight : pw_M := (5, cX5_addKnight, 4, none)
theorem k_X5_addKnight : pw_okV yX5_addKnight m_X5_addKnight 3 := ⟨⟨pw_tb_in (i := 70) (by decide +kernel) rfl, pw_tb_in (i := 441) (by decide +kernel) rfl, by decide +kernel, by decide⟩, pw_tb_in (i := 440) (by decide +kernel) rfl, pw_tb_in (i := 8) (by decide +kernel) rfl⟩
def m_X5_makeEnemies : pw_M := (5, cX5_makeEnemies, 3, none)
theorem k_X5_makeEnemies : pw_okV yX5_makeEnemies m_X5_makeEnemies 2 := ⟨⟨pw_tb_in (i := 70) (by decide +kernel) rfl, pw_tb_in (i := 445) (by decide +kernel) rfl, by decide +kernel, by decide⟩, pw_tb_in (i := 444) (by decide +kernel) rfl, pw_tb_in (i := 9) (by decide +kernel) rfl⟩
def m_X3_isSemicolon : pw_M := (3, cX3_isSemicolon, 1, (some .boolean))
theorem k_X3_isSemicolon : pw_okV yX3_isSemicolon m_X3_isSemicolon 0 := ⟨⟨pw_tb_in (i := 69) (by decide +kernel) rfl, pw_tb_in (i := 449) (by decide +kernel) rfl, by decide +kernel, by decide⟩, pw_tb_in (i := 447) (by decide +kernel) rfl, pw_tb_in (i := 448) (by decide +kernel) rfl⟩
def m_X7_table : pw_M := (7, cX7_table, 1, (some .int))
theorem k_X7_table : pw_okV yX7_table m_X7_table 0 := ⟨⟨pw_tb_in (i := 67) (by decide +kernel) rfl, pw_tb_in (i := 453) (by decide +kernel) rfl, by decide +kernel, by decide⟩, pw_tb_in (i := 451) (by decide +kernel) rfl, pw_tb_in (i := 452) (by decide +kernel) rfl⟩
def m_X0_begin : pw_M := (0, cX0_begin, 3, none)
theorem k_X0_begin : pw_okV yX0_begin m_X0_begin 1 := ⟨⟨pw_tb_in (i := 71) (by decide +kernel) rfl, pw_tb_in (i := 457) (by decide +kernel) rfl, by decide +kernel, by decide⟩, pw_tb_in (i := 455) (by decide +kernel) rfl, pw_tb_in (i := 456) (by decide +kernel) rfl⟩
def m_X0_allRise : pw_M := (0, cX0_allRise, 2, none)
theorem k_X0_allRise : pw_okV yX0_allRise m_X0_allRise 0 := ⟨⟨pw_tb_in (i := 71) (by decide +kernel) rfl, pw_tb_in (i := 461) (by decide +kernel) rfl, by decide +kernel, by decide⟩, pw_tb_in (i := 459) (by decide +kernel) rfl, pw_tb_in (i := 460) (by decide +kernel) rfl⟩
def m_X1_clear : pw_M := (1, cX1_clear, 1, none)
theorem k_X1_clear : pw_okV yX1_clear m_X1_clear 0 := ⟨⟨pw_tb_in (i := 72) (by decide +kernel) rfl, pw_tb_in (i := 465) (by decide +kernel) rfl, by decide +kernel, by decide⟩, pw_tb_in (i := 463) (by decide +kernel) rfl, pw_tb_in (i := 464) (by decide +kernel) rfl⟩
def m_X7_seat : pw_M := (7, cX7_seat, 3, (some .int))
theorem k_X7_seat : pw_okV yX7_seat m_X7_seat 2 := ⟨⟨pw_tb_in (i := 67) (by decide +kernel) rfl, pw_tb_in (i := 469) (by decide +kernel) rfl, by decide +kernel, by decide⟩, pw_tb_in (i := 467) (by decide +kernel) rfl, pw_tb_in (i := 468) (by decide +kernel) rfl⟩
def m_X7_isSeat : pw_M := (7, cX7_isSeat, 2, (some .boolean))
theorem k_X7_isSeat : pw_okV yX7_isSeat m_X7_isSeat 1 := ⟨⟨pw_tb_in (i := 67) (by decide +kernel) rfl, pw_tb_in (i := 473) (by decide +kernel) rfl, by decide +kernel, by decide⟩, pw_tb_in (i := 472) (by decide +kernel) rfl, pw_tb_in (i := 10) (by decide +kernel) rfl⟩
def m_X0_whoSitsOn : pw_M := (0, cX0_whoSitsOn, 3, (some .int))
theorem k_X0_whoSitsOn : pw_okV yX0_whoSitsOn m_X0_whoSitsOn 1 := ⟨⟨pw_tb_in (i := 71) (by decide +kernel) rfl, pw_tb_in (i := 477) (by decide +kernel) rfl, by decide +kernel, by decide⟩, pw_tb_in (i := 475) (by decide +kernel) rfl, pw_tb_in (i := 476) (by decide +kernel) rfl⟩
def m_X5_perilOn : pw_M := (5, cX5_perilOn, 2, (some .int))
theorem k_X5_perilOn : pw_okV yX5_perilOn m_X5_perilOn 1 := ⟨⟨pw_tb_in (i := 70) (by decide +kernel) rfl, pw_tb_in (i := 481) (by decide +kernel) rfl, by decide +kernel, by decide⟩, pw_tb_in (i := 479) (by decide +kernel) rfl, pw_tb_in (i := 480) (by decide +kernel) rfl⟩
def m_X5_perilFrom : pw_M := (5, cX5_perilFrom, 4, (some .int))
theorem k_X5_perilFrom : pw_okV yX5_perilFrom m_X5_perilFrom 3 := ⟨⟨pw_tb_in (i := 70) (by decide +kernel) rfl, pw_tb_in (i := 485) (by decide +kernel) rfl, by decide +kernel, by decide⟩, pw_tb_in (i := 483) (by decide +kernel) rfl, pw_tb_in (i := 484) (by decide +kernel) rfl⟩
def m_X7_knight : pw_M := (7, cX7_knight, 3, (some .int))
theorem k_X7_knight : pw_okV yX7_knight m_X7_knight 2 := ⟨⟨pw_tb_in (i := 67) (by decide +kernel) rfl, pw_tb_in (i := 489) (by decide +kernel) rfl, by decide +kernel, by decide⟩, pw_tb_in (i := 487) (by decide +kernel) rfl, pw_tb_in (i := 488) (by decide +kernel) rfl⟩
def m_X7_isKnight : pw_M := (7, cX7_isKnight, 2, (some .boolean))
theorem k_X7_isKnight : pw_okV yX7_isKnight m_X7_isKnight 1 := ⟨⟨pw_tb_in (i := 67) (by decide +kernel) rfl, pw_tb_in (i := 493) (by decide +kernel) rfl, by decide +kernel, by decide⟩, pw_tb_in (i := 492) (by decide +kernel) rfl, pw_tb_in (i := 11) (by decide +kernel) rfl⟩
def m_X7_has : pw_M := (7, cX7_has, 2, (some .boolean))
theorem k_X7_has : pw_okS yX7_has m_X7_has 2 := ⟨⟨pw_tb_in (i := 67) (by decide +kernel) rfl, pw_tb_in (i := 496) (by decide +kernel) rfl, by decide +kernel, by decide⟩, pw_tb_in (i := 495) (by decide +kernel) rfl⟩
def m_X7_as : pw_M := (7, cX7_as, 5, (some .int))
theorem k_X7_as : pw_okV yX7_as m_X7_as 2 := ⟨⟨pw_tb_in (i := 67) (by decide +kernel) rfl, pw_tb_in (i := 500) (by decide +kernel) rfl, by decide +kernel, by decide⟩, pw_tb_in (i := 498) (by decide +kernel) rfl, pw_tb_in (i := 499) (by decide +kernel) rfl⟩
def m_X7_isOfKind : pw_M := (7, cX7_isOfKind, 5, (some .boolean))
theorem k_X7_isOfKind : pw_okS yX7_isOfKind m_X7_isOfKind 3 := ⟨⟨pw_tb_in (i := 67) (by decide +kernel) rfl, pw_tb_in (i := 505) (by decide +kernel) rfl, by decide +kernel, by decide⟩, pw_tb_in (i := 504) (by decide +kernel) rfl⟩
def m_X7_fitsNow : pw_M := (7, cX7_fitsNow, 3, (some .boolean))
theorem k_X7_fitsNow : pw_okV yX7_fitsNow m_X7_fitsNow 2 := ⟨⟨pw_tb_in (i := 67) (by decide +kernel) rfl, pw_tb_in (i := 509) (by decide +kernel) rfl, by decide +kernel, by decide⟩, pw_tb_in (i := 508) (by decide +kernel) rfl, pw_tb_in (i := 12) (by decide +kernel) rfl⟩
def m_X5_fits : pw_M := (5, cX5_fits, 4, (some .boolean))
theorem k_X5_fits : pw_okV yX5_fits m_X5_fits 3 := ⟨⟨pw_tb_in (i := 70) (by decide +kernel) rfl, pw_tb_in (i := 513) (by decide +kernel) rfl, by decide +kernel, by decide⟩, pw_tb_in (i := 511) (by decide +kernel) rfl, pw_tb_in (i := 512) (by decide +kernel) rfl⟩
def m_X7_seatAs : pw_M := (7, cX7_seatAs, 5, (some .int))
theorem k_X7_seatAs : pw_okV yX7_seatAs m_X7_seatAs 2 := ⟨⟨pw_tb_in (i := 67) (by decide +kernel) rfl, pw_tb_in (i := 517) (by decide +kernel) rfl, by decide +kernel, by decide⟩, pw_tb_in (i := 515) (by decide +kernel) rfl, pw_tb_in (i := 516) (by decide +kernel) rfl⟩
def m_X7_sit : pw_M := (7, cX7_sit, 3, (some .int))
theorem k_X7_sit : pw_okV yX7_sit m_X7_sit 2 := ⟨⟨pw_tb_in (i := 67) (by decide +kernel) rfl, pw_tb_in (i := 523) (by decide +kernel) rfl, by decide +kernel, by decide⟩, pw_tb_in (i := 521) (by decide +kernel) rfl, pw_tb_in (i := 522) (by decide +kernel) rfl⟩
def m_X1_remember : pw_M := (1, cX1_remember, 2, none)
theorem k_X1_remember : pw_okV yX1_remember m_X1_remember 1 := ⟨⟨pw_tb_in (i := 72) (by decide +kernel) rfl, pw_tb_in (i := 527) (by decide +kernel) rfl, by decide +kernel, by decide⟩, pw_tb_in (i := 525) (by decide +kernel) rfl, pw_tb_in (i := 526) (by decide +kernel) rfl⟩
def m_X0_copy : pw_M := (0, cX0_copy, 3, none)
theorem k_X0_copy : pw_okV yX0_copy m_X0_copy 1 := ⟨⟨pw_tb_in (i := 71) (by decide +kernel) rfl, pw_tb_in (i := 531) (by decide +kernel) rfl, by decide +kernel, by decide⟩, pw_tb_in (i := 529) (by decide +kernel) rfl, pw_tb_in (i := 530) (by decide +kernel) rfl⟩
def m_J9_min_7cf53 : pw_M := (11, cJ9_min_7cf53, 2, (some .int))
theorem k_J9_min_7cf53 : pw_okS yJ9_min_7cf53 m_J9_min_7cf53 2 := ⟨⟨pw_tb_in (i := 76) (by decide +kernel) rfl, pw_tb_in (i := 534) (by decide +kernel) rfl, by decide +kernel, by decide⟩, pw_tb_in (i := 533) (by decide +kernel) rfl⟩
def m_X0_whoSit : pw_M := (0, cX0_whoSit, 3, (some .int))
theorem k_X0_whoSit : pw_okV yX0_whoSit m_X0_whoSit 0 := ⟨⟨pw_tb_in (i := 71) (by decide +kernel) rfl, pw_tb_in (i := 538) (by decide +kernel) rfl, by decide +kernel, by decide⟩, pw_tb_in (i := 536) (by decide +kernel) rfl, pw_tb_in (i := 537) (by decide +kernel) rfl⟩
def m_J6_bitCount_0f7a4 : pw_M := (10, cJ6_bitCount_0f7a4, 1, (some .int))
theorem k_J6_bitCount_0f7a4 : pw_okS yJ6_bitCount_0f7a4 m_J6_bitCount_0f7a4 1 := ⟨⟨pw_tb_in (i := 77) (by decide +kernel) rfl, pw_tb_in (i := 541) (by decide +kernel) rfl, by decide +kernel, by decide⟩, pw_tb_in (i := 540) (by decide +kernel) rfl⟩
def m_X7_rise : pw_M := (7, cX7_rise, 2, (some .int))
theorem k_X7_rise : pw_okV yX7_rise m_X7_rise 0 := ⟨⟨pw_tb_in (i := 67) (by decide +kernel) rfl, pw_tb_in (i := 548) (by decide +kernel) rfl, by decide +kernel, by decide⟩, pw_tb_in (i := 546) (by decide +kernel) rfl, pw_tb_in (i := 547) (by decide +kernel) rfl⟩
def m_X7_tell : pw_M := (7, cX7_tell, 3, (some .int))
theorem k_X7_tell : pw_okV yX7_tell m_X7_tell 2 := ⟨⟨pw_tb_in (i := 67) (by decide +kernel) rfl, pw_tb_in (i := 553) (by decide +kernel) rfl, by decide +kernel, by decide⟩, pw_tb_in (i := 551) (by decide +kernel) rfl, pw_tb_in (i := 552) (by decide +kernel) rfl⟩
def m_X7_isNews : pw_M := (7, cX7_isNews, 1, (some .boolean))
theorem k_X7_isNews : pw_okS yX7_isNews m_X7_isNews 1 := ⟨⟨pw_tb_in (i := 67) (by decide +kernel) rfl, pw_tb_in (i := 556) (by decide +kernel) rfl, by decide +kernel, by decide⟩, pw_tb_in (i := 555) (by decide +kernel) rfl⟩
def m_X7_feast : pw_M := (7, cX7_feast, 2, (some .int))
theorem k_X7_feast : pw_okV yX7_feast m_X7_feast 0 := ⟨⟨pw_tb_in (i := 67) (by decide +kernel) rfl, pw_tb_in (i := 560) (by decide +kernel) rfl, by decide +kernel, by decide⟩, pw_tb_in (i := 558) (by decide +kernel) rfl, pw_tb_in (i := 559) (by decide +kernel) rfl⟩
def m_X7_whoIsWrong : pw_M := (7, cX7_whoIsWrong, 4, (some .int))
theorem k_X7_whoIsWrong : pw_okV yX7_whoIsWrong m_X7_whoIsWrong 0 := ⟨⟨pw_tb_in (i := 67) (by decide +kernel) rfl, pw_tb_in (i := 564) (by decide +kernel) rfl, by decide +kernel, by decide⟩, pw_tb_in (i := 563) (by decide +kernel) rfl, pw_tb_in (i := 13) (by decide +kernel) rfl⟩
def m_X7_isInPeril : pw_M := (7, cX7_isInPeril, 3, (some .boolean))
theorem k_X7_isInPeril : pw_okV yX7_isInPeril m_X7_isInPeril 2 := ⟨⟨pw_tb_in (i := 67) (by decide +kernel) rfl, pw_tb_in (i := 568) (by decide +kernel) rfl, by decide +kernel, by decide⟩, pw_tb_in (i := 567) (by decide +kernel) rfl, pw_tb_in (i := 14) (by decide +kernel) rfl⟩
def m_X7_changeRenown : pw_M := (7, cX7_changeRenown, 5, none)
theorem k_X7_changeRenown : pw_okV yX7_changeRenown m_X7_changeRenown 1 := ⟨⟨pw_tb_in (i := 67) (by decide +kernel) rfl, pw_tb_in (i := 572) (by decide +kernel) rfl, by decide +kernel, by decide⟩, pw_tb_in (i := 571) (by decide +kernel) rfl, pw_tb_in (i := 15) (by decide +kernel) rfl⟩
def m_X7_whoSitsBehind : pw_M := (7, cX7_whoSitsBehind, 2, (some .int))
theorem k_X7_whoSitsBehind : pw_okV yX7_whoSitsBehind m_X7_whoSitsBehind 1 := ⟨⟨pw_tb_in (i := 67) (by decide +kernel) rfl, pw_tb_in (i := 576) (by decide +kernel) rfl, by decide +kernel, by decide⟩, pw_tb_in (i := 575) (by decide +kernel) rfl, pw_tb_in (i := 16) (by decide +kernel) rfl⟩
def m_X7_behind : pw_M := (7, cX7_behind, 2, (some .int))
theorem k_X7_behind : pw_okS yX7_behind m_X7_behind 2 := ⟨⟨pw_tb_in (i := 67) (by decide +kernel) rfl, pw_tb_in (i := 579) (by decide +kernel) rfl, by decide +kernel, by decide⟩, pw_tb_in (i := 578) (by decide +kernel) rfl⟩
def m_X7_areEnemies : pw_M := (7, cX7_areEnemies, 3, (some .boolean))
theorem k_X7_areEnemies : pw_okV yX7_areEnemies m_X7_areEnemies 2 := ⟨⟨pw_tb_in (i := 67) (by decide +kernel) rfl, pw_tb_in (i := 583) (by decide +kernel) rfl, by decide +kernel, by decide⟩, pw_tb_in (i := 582) (by decide +kernel) rfl, pw_tb_in (i := 17) (by decide +kernel) rfl⟩
def m_X7_ahead : pw_M := (7, cX7_ahead, 2, (some .int))
theorem k_X7_ahead : pw_okS yX7_ahead m_X7_ahead 2 := ⟨⟨pw_tb_in (i := 67) (by decide +kernel) rfl, pw_tb_in (i := 586) (by decide +kernel) rfl, by decide +kernel, by decide⟩, pw_tb_in (i := 585) (by decide +kernel) rfl⟩
def m_J9_max_7cf53 : pw_M := (11, cJ9_max_7cf53, 2, (some .int))
theorem k_J9_max_7cf53 : pw_okS yJ9_max_7cf53 m_J9_max_7cf53 2 := ⟨⟨pw_tb_in (i := 76) (by decide +kernel) rfl, pw_tb_in (i := 589) (by decide +kernel) rfl, by decide +kernel, by decide⟩, pw_tb_in (i := 588) (by decide +kernel) rfl⟩
def m_X7_spreadNews : pw_M := (7, cX7_spreadNews, 4, none)
theorem k_X7_spreadNews : pw_okV yX7_spreadNews m_X7_spreadNews 0 := ⟨⟨pw_tb_in (i := 67) (by decide +kernel) rfl, pw_tb_in (i := 594) (by decide +kernel) rfl, by decide +kernel, by decide⟩, pw_tb_in (i := 593) (by decide +kernel) rfl, pw_tb_in (i := 18) (by decide +kernel) rfl⟩
def m_X7_undo : pw_M := (7, cX7_undo, 1, (some .int))
theorem k_X7_undo : pw_okV yX7_undo m_X7_undo 0 := ⟨⟨pw_tb_in (i := 67) (by decide +kernel) rfl, pw_tb_in (i := 598) (by decide +kernel) rfl, by decide +kernel, by decide⟩, pw_tb_in (i := 596) (by decide +kernel) rfl, pw_tb_in (i := 597) (by decide +kernel) rfl⟩
def m_X1_recall : pw_M := (1, cX1_recall, 2, none)
theorem k_X1_recall : pw_okV yX1_recall m_X1_recall 1 := ⟨⟨pw_tb_in (i := 72) (by decide +kernel) rfl, pw_tb_in (i := 602) (by decide +kernel) rfl, by decide +kernel, by decide⟩, pw_tb_in (i := 600) (by decide +kernel) rfl, pw_tb_in (i := 601) (by decide +kernel) rfl⟩
def m_X7_keep : pw_M := (7, cX7_keep, 2, (some .int))
theorem k_X7_keep : pw_okV yX7_keep m_X7_keep 1 := ⟨⟨pw_tb_in (i := 67) (by decide +kernel) rfl, pw_tb_in (i := 606) (by decide +kernel) rfl, by decide +kernel, by decide⟩, pw_tb_in (i := 604) (by decide +kernel) rfl, pw_tb_in (i := 605) (by decide +kernel) rfl⟩
def m_X7_back : pw_M := (7, cX7_back, 2, (some .int))
theorem k_X7_back : pw_okV yX7_back m_X7_back 1 := ⟨⟨pw_tb_in (i := 67) (by decide +kernel) rfl, pw_tb_in (i := 611) (by decide +kernel) rfl, by decide +kernel, by decide⟩, pw_tb_in (i := 609) (by decide +kernel) rfl, pw_tb_in (i := 610) (by decide +kernel) rfl⟩
def m_X7_seatings : pw_M := (7, cX7_seatings, 1, (some .int))
theorem k_X7_seatings : pw_okV yX7_seatings m_X7_seatings 0 := ⟨⟨pw_tb_in (i := 67) (by decide +kernel) rfl, pw_tb_in (i := 615) (by decide +kernel) rfl, by decide +kernel, by decide⟩, pw_tb_in (i := 613) (by decide +kernel) rfl, pw_tb_in (i := 614) (by decide +kernel) rfl⟩
def m_X7_prepareSearch : pw_M := (7, cX7_prepareSearch, 5, none)
theorem k_X7_prepareSearch : pw_okV yX7_prepareSearch m_X7_prepareSearch 1 := ⟨⟨pw_tb_in (i := 67) (by decide +kernel) rfl, pw_tb_in (i := 619) (by decide +kernel) rfl, by decide +kernel, by decide⟩, pw_tb_in (i := 618) (by decide +kernel) rfl, pw_tb_in (i := 19) (by decide +kernel) rfl⟩
def m_X4_ways : pw_M := (4, cX4_ways, 1, (some .int))
theorem k_X4_ways : pw_okV yX4_ways m_X4_ways 0 := ⟨⟨pw_tb_in (i := 74) (by decide +kernel) rfl, pw_tb_in (i := 623) (by decide +kernel) rfl, by decide +kernel, by decide⟩, pw_tb_in (i := 621) (by decide +kernel) rfl, pw_tb_in (i := 622) (by decide +kernel) rfl⟩
def m_X4_waysFrom : pw_M := (4, cX4_waysFrom, 6, (some .int))
theorem k_X4_waysFrom : pw_okV yX4_waysFrom m_X4_waysFrom 2 := ⟨⟨pw_tb_in (i := 74) (by decide +kernel) rfl, pw_tb_in (i := 627) (by decide +kernel) rfl, by decide +kernel, by decide⟩, pw_tb_in (i := 626) (by decide +kernel) rfl, pw_tb_in (i := 20) (by decide +kernel) rfl⟩
def m_X4_freeSeats : pw_M := (4, cX4_freeSeats, 5, (some .int))
theorem k_X4_freeSeats : pw_okV yX4_freeSeats m_X4_freeSeats 2 := ⟨⟨pw_tb_in (i := 74) (by decide +kernel) rfl, pw_tb_in (i := 632) (by decide +kernel) rfl, by decide +kernel, by decide⟩, pw_tb_in (i := 631) (by decide +kernel) rfl, pw_tb_in (i := 21) (by decide +kernel) rfl⟩
def m_X4_besides : pw_M := (4, cX4_besides, 2, (some .int))
theorem k_X4_besides : pw_okV yX4_besides m_X4_besides 1 := ⟨⟨pw_tb_in (i := 74) (by decide +kernel) rfl, pw_tb_in (i := 636) (by decide +kernel) rfl, by decide +kernel, by decide⟩, pw_tb_in (i := 635) (by decide +kernel) rfl, pw_tb_in (i := 22) (by decide +kernel) rfl⟩
def m_X7_seatOf : pw_M := (7, cX7_seatOf, 2, (some .int))
theorem k_X7_seatOf : pw_okV yX7_seatOf m_X7_seatOf 1 := ⟨⟨pw_tb_in (i := 67) (by decide +kernel) rfl, pw_tb_in (i := 643) (by decide +kernel) rfl, by decide +kernel, by decide⟩, pw_tb_in (i := 641) (by decide +kernel) rfl, pw_tb_in (i := 642) (by decide +kernel) rfl⟩
def m_X4_first : pw_M := (4, cX4_first, 1, (some .boolean))
theorem k_X4_first : pw_okV yX4_first m_X4_first 0 := ⟨⟨pw_tb_in (i := 74) (by decide +kernel) rfl, pw_tb_in (i := 647) (by decide +kernel) rfl, by decide +kernel, by decide⟩, pw_tb_in (i := 645) (by decide +kernel) rfl, pw_tb_in (i := 646) (by decide +kernel) rfl⟩
def m_X4_firstFrom : pw_M := (4, cX4_firstFrom, 5, (some .boolean))
theorem k_X4_firstFrom : pw_okV yX4_firstFrom m_X4_firstFrom 2 := ⟨⟨pw_tb_in (i := 74) (by decide +kernel) rfl, pw_tb_in (i := 651) (by decide +kernel) rfl, by decide +kernel, by decide⟩, pw_tb_in (i := 650) (by decide +kernel) rfl, pw_tb_in (i := 23) (by decide +kernel) rfl⟩
def m_X7_moved : pw_M := (7, cX7_moved, 1, (some .int))
theorem k_X7_moved : pw_okV yX7_moved m_X7_moved 0 := ⟨⟨pw_tb_in (i := 67) (by decide +kernel) rfl, pw_tb_in (i := 655) (by decide +kernel) rfl, by decide +kernel, by decide⟩, pw_tb_in (i := 653) (by decide +kernel) rfl, pw_tb_in (i := 654) (by decide +kernel) rfl⟩
def m_X4_fewestAway : pw_M := (4, cX4_fewestAway, 2, (some .int))
theorem k_X4_fewestAway : pw_okV yX4_fewestAway m_X4_fewestAway 0 := ⟨⟨pw_tb_in (i := 74) (by decide +kernel) rfl, pw_tb_in (i := 659) (by decide +kernel) rfl, by decide +kernel, by decide⟩, pw_tb_in (i := 657) (by decide +kernel) rfl, pw_tb_in (i := 658) (by decide +kernel) rfl⟩
def m_X4_fewestFrom : pw_M := (4, cX4_fewestFrom, 9, (some .int))
theorem k_X4_fewestFrom : pw_okV yX4_fewestFrom m_X4_fewestFrom 4 := ⟨⟨pw_tb_in (i := 74) (by decide +kernel) rfl, pw_tb_in (i := 663) (by decide +kernel) rfl, by decide +kernel, by decide⟩, pw_tb_in (i := 662) (by decide +kernel) rfl, pw_tb_in (i := 24) (by decide +kernel) rfl⟩
def m_X7_knows : pw_M := (7, cX7_knows, 2, (some .int))
theorem k_X7_knows : pw_okV yX7_knows m_X7_knows 1 := ⟨⟨pw_tb_in (i := 67) (by decide +kernel) rfl, pw_tb_in (i := 667) (by decide +kernel) rfl, by decide +kernel, by decide⟩, pw_tb_in (i := 665) (by decide +kernel) rfl, pw_tb_in (i := 666) (by decide +kernel) rfl⟩
def m_X7_whoKnows : pw_M := (7, cX7_whoKnows, 4, (some .int))
theorem k_X7_whoKnows : pw_okV yX7_whoKnows m_X7_whoKnows 1 := ⟨⟨pw_tb_in (i := 67) (by decide +kernel) rfl, pw_tb_in (i := 671) (by decide +kernel) rfl, by decide +kernel, by decide⟩, pw_tb_in (i := 670) (by decide +kernel) rfl, pw_tb_in (i := 25) (by decide +kernel) rfl⟩
def m_X4_mostKnow : pw_M := (4, cX4_mostKnow, 2, (some .int))
theorem k_X4_mostKnow : pw_okV yX4_mostKnow m_X4_mostKnow 1 := ⟨⟨pw_tb_in (i := 74) (by decide +kernel) rfl, pw_tb_in (i := 675) (by decide +kernel) rfl, by decide +kernel, by decide⟩, pw_tb_in (i := 673) (by decide +kernel) rfl, pw_tb_in (i := 674) (by decide +kernel) rfl⟩
def m_X4_mostFrom : pw_M := (4, cX4_mostFrom, 9, (some .int))
theorem k_X4_mostFrom : pw_okV yX4_mostFrom m_X4_mostFrom 4 := ⟨⟨pw_tb_in (i := 74) (by decide +kernel) rfl, pw_tb_in (i := 680) (by decide +kernel) rfl, by decide +kernel, by decide⟩, pw_tb_in (i := 679) (by decide +kernel) rfl, pw_tb_in (i := 26) (by decide +kernel) rfl⟩
def m_X4_knowAfterwards : pw_M := (4, cX4_knowAfterwards, 4, (some .int))
theorem k_X4_knowAfterwards : pw_okV yX4_knowAfterwards m_X4_knowAfterwards 2 := ⟨⟨pw_tb_in (i := 74) (by decide +kernel) rfl, pw_tb_in (i := 684) (by decide +kernel) rfl, by decide +kernel, by decide⟩, pw_tb_in (i := 683) (by decide +kernel) rfl, pw_tb_in (i := 27) (by decide +kernel) rfl⟩
def m_X7_judge : pw_M := (7, cX7_judge, 2, (some .int))
theorem k_X7_judge : pw_okV yX7_judge m_X7_judge 1 := ⟨⟨pw_tb_in (i := 67) (by decide +kernel) rfl, pw_tb_in (i := 689) (by decide +kernel) rfl, by decide +kernel, by decide⟩, pw_tb_in (i := 687) (by decide +kernel) rfl, pw_tb_in (i := 688) (by decide +kernel) rfl⟩
def m_X7_quarrels : pw_M := (7, cX7_quarrels, 3, (some .int))
theorem k_X7_quarrels : pw_okV yX7_quarrels m_X7_quarrels 0 := ⟨⟨pw_tb_in (i := 67) (by decide +kernel) rfl, pw_tb_in (i := 693) (by decide +kernel) rfl, by decide +kernel, by decide⟩, pw_tb_in (i := 692) (by decide +kernel) rfl, pw_tb_in (i := 28) (by decide +kernel) rfl⟩
def m_X7_seen : pw_M := (7, cX7_seen, 5, (some .int))
theorem k_X7_seen : pw_okV yX7_seen m_X7_seen 4 := ⟨⟨pw_tb_in (i := 67) (by decide +kernel) rfl, pw_tb_in (i := 697) (by decide +kernel) rfl, by decide +kernel, by decide⟩, pw_tb_in (i := 695) (by decide +kernel) rfl, pw_tb_in (i := 696) (by decide +kernel) rfl⟩
def m_X6_note : pw_M := (6, cX6_note, 5, none)
theorem k_X6_note : pw_okV yX6_note m_X6_note 4 := ⟨⟨pw_tb_in (i := 73) (by decide +kernel) rfl, pw_tb_in (i := 701) (by decide +kernel) rfl, by decide +kernel, by decide⟩, pw_tb_in (i := 699) (by decide +kernel) rfl, pw_tb_in (i := 700) (by decide +kernel) rfl⟩
def m_X7_forget : pw_M := (7, cX7_forget, 2, (some .int))
theorem k_X7_forget : pw_okV yX7_forget m_X7_forget 0 := ⟨⟨pw_tb_in (i := 67) (by decide +kernel) rfl, pw_tb_in (i := 705) (by decide +kernel) rfl, by decide +kernel, by decide⟩, pw_tb_in (i := 703) (by decide +kernel) rfl, pw_tb_in (i := 704) (by decide +kernel) rfl⟩
def m_X7_worlds : pw_M := (7, cX7_worlds, 2, (some .int))
theorem k_X7_worlds : pw_okV yX7_worlds m_X7_worlds 1 := ⟨⟨pw_tb_in (i := 67) (by decide +kernel) rfl, pw_tb_in (i := 709) (by decide +kernel) rfl, by decide +kernel, by decide⟩, pw_tb_in (i := 707) (by decide +kernel) rfl, pw_tb_in (i := 708) (by decide +kernel) rfl⟩
def m_X6_survey : pw_M := (6, cX6_survey, 8, none)
theorem k_X6_survey : pw_okV yX6_survey m_X6_survey 3 := ⟨⟨pw_tb_in (i := 73) (by decide +kernel) rfl, pw_tb_in (i := 713) (by decide +kernel) rfl, by decide +kernel, by decide⟩, pw_tb_in (i := 711) (by decide +kernel) rfl, pw_tb_in (i := 712) (by decide +kernel) rfl⟩
def m_X6_isWorld : pw_M := (6, cX6_isWorld, 7, (some .boolean))
theorem k_X6_isWorld : pw_okV yX6_isWorld m_X6_isWorld 4 := ⟨⟨pw_tb_in (i := 73) (by decide +kernel) rfl, pw_tb_in (i := 718) (by decide +kernel) rfl, by decide +kernel, by decide⟩, pw_tb_in (i := 717) (by decide +kernel) rfl, pw_tb_in (i := 29) (by decide +kernel) rfl⟩
def m_X7_safest : pw_M := (7, cX7_safest, 7, (some .int))
theorem k_X7_safest : pw_okV yX7_safest m_X7_safest 2 := ⟨⟨pw_tb_in (i := 67) (by decide +kernel) rfl, pw_tb_in (i := 722) (by decide +kernel) rfl, by decide +kernel, by decide⟩, pw_tb_in (i := 720) (by decide +kernel) rfl, pw_tb_in (i := 721) (by decide +kernel) rfl⟩
def m_X7_quests : pw_M := (7, cX7_quests, 14, (some .long))
theorem k_X7_quests : pw_okV yX7_quests m_X7_quests 5 := ⟨⟨pw_tb_in (i := 67) (by decide +kernel) rfl, pw_tb_in (i := 726) (by decide +kernel) rfl, by decide +kernel, by decide⟩, pw_tb_in (i := 724) (by decide +kernel) rfl, pw_tb_in (i := 725) (by decide +kernel) rfl⟩
def m_X7_power : pw_M := (7, cX7_power, 5, (some .long))
theorem k_X7_power : pw_okS yX7_power m_X7_power 2 := ⟨⟨pw_tb_in (i := 67) (by decide +kernel) rfl, pw_tb_in (i := 731) (by decide +kernel) rfl, by decide +kernel, by decide⟩, pw_tb_in (i := 730) (by decide +kernel) rfl⟩
def m_X7_commonDivisor : pw_M := (7, cX7_commonDivisor, 11, (some .long))
theorem k_X7_commonDivisor : pw_okS yX7_commonDivisor m_X7_commonDivisor 2 := ⟨⟨pw_tb_in (i := 67) (by decide +kernel) rfl, pw_tb_in (i := 734) (by decide +kernel) rfl, by decide +kernel, by decide⟩, pw_tb_in (i := 733) (by decide +kernel) rfl⟩
def m_X7_lent : pw_M := (7, cX7_lent, 3, (some .int))
theorem k_X7_lent : pw_okV yX7_lent m_X7_lent 1 := ⟨⟨pw_tb_in (i := 67) (by decide +kernel) rfl, pw_tb_in (i := 738) (by decide +kernel) rfl, by decide +kernel, by decide⟩, pw_tb_in (i := 736) (by decide +kernel) rfl, pw_tb_in (i := 737) (by decide +kernel) rfl⟩
def m_X7_count : pw_M := (7, cX7_count, 2, (some .int))
theorem k_X7_count : pw_okV yX7_count m_X7_count 1 := ⟨⟨pw_tb_in (i := 67) (by decide +kernel) rfl, pw_tb_in (i := 742) (by decide +kernel) rfl, by decide +kernel, by decide⟩, pw_tb_in (i := 740) (by decide +kernel) rfl, pw_tb_in (i := 741) (by decide +kernel) rfl⟩
def m_X5_pairsOfEnemies : pw_M := (5, cX5_pairsOfEnemies, 3, (some .int))
theorem k_X5_pairsOfEnemies : pw_okV yX5_pairsOfEnemies m_X5_pairsOfEnemies 0 := ⟨⟨pw_tb_in (i := 70) (by decide +kernel) rfl, pw_tb_in (i := 746) (by decide +kernel) rfl, by decide +kernel, by decide⟩, pw_tb_in (i := 744) (by decide +kernel) rfl, pw_tb_in (i := 745) (by decide +kernel) rfl⟩
def m_X8_begins : pw_M := (8, cX8_begins, 2, none)
theorem k_X8_begins : pw_okV yX8_begins m_X8_begins 0 := ⟨⟨pw_tb_in (i := 75) (by decide +kernel) rfl, pw_tb_in (i := 757) (by decide +kernel) rfl, by decide +kernel, by decide⟩, pw_tb_in (i := 756) (by decide +kernel) rfl, pw_tb_in (i := 30) (by decide +kernel) rfl⟩
def m_X8_write : pw_M := (8, cX8_write, 2, (some .int))
theorem k_X8_write : pw_okV yX8_write m_X8_write 1 := ⟨⟨pw_tb_in (i := 75) (by decide +kernel) rfl, pw_tb_in (i := 876) (by decide +kernel) rfl, by decide +kernel, by decide⟩, pw_tb_in (i := 874) (by decide +kernel) rfl, pw_tb_in (i := 875) (by decide +kernel) rfl⟩
def m_X8_in : pw_M := (8, cX8_in, 3, (some .boolean))
theorem k_X8_in : pw_okS yX8_in m_X8_in 3 := ⟨⟨pw_tb_in (i := 75) (by decide +kernel) rfl, pw_tb_in (i := 879) (by decide +kernel) rfl, by decide +kernel, by decide⟩, pw_tb_in (i := 878) (by decide +kernel) rfl⟩
def m_X8_erase : pw_M := (8, cX8_erase, 2, (some .int))
theorem k_X8_erase : pw_okV yX8_erase m_X8_erase 0 := ⟨⟨pw_tb_in (i := 75) (by decide +kernel) rfl, pw_tb_in (i := 883) (by decide +kernel) rfl, by decide +kernel, by decide⟩, pw_tb_in (i := 881) (by decide +kernel) rfl, pw_tb_in (i := 882) (by decide +kernel) rfl⟩
def m_X8_fault : pw_M := (8, cX8_fault, 1, (some .int))
theorem k_X8_fault : pw_okV yX8_fault m_X8_fault 0 := ⟨⟨pw_tb_in (i := 75) (by decide +kernel) rfl, pw_tb_in (i := 887) (by decide +kernel) rfl, by decide +kernel, by decide⟩, pw_tb_in (i := 885) (by decide +kernel) rfl, pw_tb_in (i := 886) (by decide +kernel) rfl⟩
def m_X8_reads : pw_M := (8, cX8_reads, 2, none)
theorem k_X8_reads : pw_okV yX8_reads m_X8_reads 0 := ⟨⟨pw_tb_in (i := 75) (by decide +kernel) rfl, pw_tb_in (i := 891) (by decide +kernel) rfl, by decide +kernel, by decide⟩, pw_tb_in (i := 890) (by decide +kernel) rfl, pw_tb_in (i := 31) (by decide +kernel) rfl⟩
def m_X8_next : pw_M := (8, cX8_next, 2, none)
theorem k_X8_next : pw_okV yX8_next m_X8_next 0 := ⟨⟨pw_tb_in (i := 75) (by decide +kernel) rfl, pw_tb_in (i := 895) (by decide +kernel) rfl, by decide +kernel, by decide⟩, pw_tb_in (i := 894) (by decide +kernel) rfl, pw_tb_in (i := 32) (by decide +kernel) rfl⟩
def m_X8_letterAt : pw_M := (8, cX8_letterAt, 2, (some .int))
theorem k_X8_letterAt : pw_okV yX8_letterAt m_X8_letterAt 1 := ⟨⟨pw_tb_in (i := 75) (by decide +kernel) rfl, pw_tb_in (i := 899) (by decide +kernel) rfl, by decide +kernel, by decide⟩, pw_tb_in (i := 898) (by decide +kernel) rfl, pw_tb_in (i := 33) (by decide +kernel) rfl⟩
def m_X8_isSmall : pw_M := (8, cX8_isSmall, 1, (some .boolean))
theorem k_X8_isSmall : pw_okS yX8_isSmall m_X8_isSmall 1 := ⟨⟨pw_tb_in (i := 75) (by decide +kernel) rfl, pw_tb_in (i := 902) (by decide +kernel) rfl, by decide +kernel, by decide⟩, pw_tb_in (i := 901) (by decide +kernel) rfl⟩
def m_X8_isFigure : pw_M := (8, cX8_isFigure, 1, (some .boolean))
theorem k_X8_isFigure : pw_okS yX8_isFigure m_X8_isFigure 1 := ⟨⟨pw_tb_in (i := 75) (by decide +kernel) rfl, pw_tb_in (i := 905) (by decide +kernel) rfl, by decide +kernel, by decide⟩, pw_tb_in (i := 904) (by decide +kernel) rfl⟩
def m_X8_readClause : pw_M := (8, cX8_readClause, 3, none)
theorem k_X8_readClause : pw_okV yX8_readClause m_X8_readClause 0 := ⟨⟨pw_tb_in (i := 75) (by decide +kernel) rfl, pw_tb_in (i := 909) (by decide +kernel) rfl, by decide +kernel, by decide⟩, pw_tb_in (i := 908) (by decide +kernel) rfl, pw_tb_in (i := 34) (by decide +kernel) rfl⟩
def m_X8_wordOf : pw_M := (8, cX8_wordOf, 1, (some .int))
theorem k_X8_wordOf : pw_okV yX8_wordOf m_X8_wordOf 0 := ⟨⟨pw_tb_in (i := 75) (by decide +kernel) rfl, pw_tb_in (i := 913) (by decide +kernel) rfl, by decide +kernel, by decide⟩, pw_tb_in (i := 912) (by decide +kernel) rfl, pw_tb_in (i := 35) (by decide +kernel) rfl⟩
def m_X8_spells : pw_M := (8, cX8_spells, 6, (some .boolean))
theorem k_X8_spells : pw_okV yX8_spells m_X8_spells 5 := ⟨⟨pw_tb_in (i := 75) (by decide +kernel) rfl, pw_tb_in (i := 917) (by decide +kernel) rfl, by decide +kernel, by decide⟩, pw_tb_in (i := 916) (by decide +kernel) rfl, pw_tb_in (i := 36) (by decide +kernel) rfl⟩
def m_X8_otherWord : pw_M := (8, cX8_otherWord, 1, (some .int))
theorem k_X8_otherWord : pw_okV yX8_otherWord m_X8_otherWord 0 := ⟨⟨pw_tb_in (i := 75) (by decide +kernel) rfl, pw_tb_in (i := 921) (by decide +kernel) rfl, by decide +kernel, by decide⟩, pw_tb_in (i := 920) (by decide +kernel) rfl, pw_tb_in (i := 37) (by decide +kernel) rfl⟩
def m_X8_readTable : pw_M := (8, cX8_readTable, 2, none)
theorem k_X8_readTable : pw_okV yX8_readTable m_X8_readTable 0 := ⟨⟨pw_tb_in (i := 75) (by decide +kernel) rfl, pw_tb_in (i := 925) (by decide +kernel) rfl, by decide +kernel, by decide⟩, pw_tb_in (i := 924) (by decide +kernel) rfl, pw_tb_in (i := 38) (by decide +kernel) rfl⟩
def m_X8_number : pw_M := (8, cX8_number, 5, (some .int))
theorem k_X8_number : pw_okV yX8_number m_X8_number 2 := ⟨⟨pw_tb_in (i := 75) (by decide +kernel) rfl, pw_tb_in (i := 929) (by decide +kernel) rfl, by decide +kernel, by decide⟩, pw_tb_in (i := 928) (by decide +kernel) rfl, pw_tb_in (i := 39) (by decide +kernel) rfl⟩
def m_X8_laysTable : pw_M := (8, cX8_laysTable, 3, none)
theorem k_X8_laysTable : pw_okV yX8_laysTable m_X8_laysTable 1 := ⟨⟨pw_tb_in (i := 75) (by decide +kernel) rfl, pw_tb_in (i := 933) (by decide +kernel) rfl, by decide +kernel, by decide⟩, pw_tb_in (i := 932) (by decide +kernel) rfl, pw_tb_in (i := 40) (by decide +kernel) rfl⟩
def m_X8_readName : pw_M := (8, cX8_readName, 4, none)
theorem k_X8_readName : pw_okV yX8_readName m_X8_readName 1 := ⟨⟨pw_tb_in (i := 75) (by decide +kernel) rfl, pw_tb_in (i := 937) (by decide +kernel) rfl, by decide +kernel, by decide⟩, pw_tb_in (i := 936) (by decide +kernel) rfl, pw_tb_in (i := 41) (by decide +kernel) rfl⟩
def m_X8_readKnight : pw_M := (8, cX8_readKnight, 4, none)
theorem k_X8_readKnight : pw_okV yX8_readKnight m_X8_readKnight 1 := ⟨⟨pw_tb_in (i := 75) (by decide +kernel) rfl, pw_tb_in (i := 941) (by decide +kernel) rfl, by decide +kernel, by decide⟩, pw_tb_in (i := 940) (by decide +kernel) rfl, pw_tb_in (i := 42) (by decide +kernel) rfl⟩
def m_X8_readEnemies : pw_M := (8, cX8_readEnemies, 3, none)
theorem k_X8_readEnemies : pw_okV yX8_readEnemies m_X8_readEnemies 0 := ⟨⟨pw_tb_in (i := 75) (by decide +kernel) rfl, pw_tb_in (i := 945) (by decide +kernel) rfl, by decide +kernel, by decide⟩, pw_tb_in (i := 944) (by decide +kernel) rfl, pw_tb_in (i := 43) (by decide +kernel) rfl⟩
def m_X8_readPeril : pw_M := (8, cX8_readPeril, 3, none)
theorem k_X8_readPeril : pw_okV yX8_readPeril m_X8_readPeril 0 := ⟨⟨pw_tb_in (i := 75) (by decide +kernel) rfl, pw_tb_in (i := 949) (by decide +kernel) rfl, by decide +kernel, by decide⟩, pw_tb_in (i := 948) (by decide +kernel) rfl, pw_tb_in (i := 44) (by decide +kernel) rfl⟩
def m_X8_table : pw_M := (8, cX8_table, 2, (some .int))
theorem k_X8_table : pw_okV yX8_table m_X8_table 0 := ⟨⟨pw_tb_in (i := 75) (by decide +kernel) rfl, pw_tb_in (i := 953) (by decide +kernel) rfl, by decide +kernel, by decide⟩, pw_tb_in (i := 951) (by decide +kernel) rfl, pw_tb_in (i := 952) (by decide +kernel) rfl⟩
def m_X8_seat : pw_M := (8, cX8_seat, 3, (some .int))
theorem k_X8_seat : pw_okV yX8_seat m_X8_seat 2 := ⟨⟨pw_tb_in (i := 75) (by decide +kernel) rfl, pw_tb_in (i := 957) (by decide +kernel) rfl, by decide +kernel, by decide⟩, pw_tb_in (i := 955) (by decide +kernel) rfl, pw_tb_in (i := 956) (by decide +kernel) rfl⟩
def m_X8_isSeat : pw_M := (8, cX8_isSeat, 2, (some .boolean))
theorem k_X8_isSeat : pw_okV yX8_isSeat m_X8_isSeat 1 := ⟨⟨pw_tb_in (i := 75) (by decide +kernel) rfl, pw_tb_in (i := 961) (by decide +kernel) rfl, by decide +kernel, by decide⟩, pw_tb_in (i := 960) (by decide +kernel) rfl, pw_tb_in (i := 45) (by decide +kernel) rfl⟩
def m_X8_sitter : pw_M := (8, cX8_sitter, 4, (some .int))
theorem k_X8_sitter : pw_okV yX8_sitter m_X8_sitter 1 := ⟨⟨pw_tb_in (i := 75) (by decide +kernel) rfl, pw_tb_in (i := 965) (by decide +kernel) rfl, by decide +kernel, by decide⟩, pw_tb_in (i := 964) (by decide +kernel) rfl, pw_tb_in (i := 46) (by decide +kernel) rfl⟩
def m_X8_perilOn : pw_M := (8, cX8_perilOn, 1, (some .int))
theorem k_X8_perilOn : pw_okV yX8_perilOn m_X8_perilOn 0 := ⟨⟨pw_tb_in (i := 75) (by decide +kernel) rfl, pw_tb_in (i := 969) (by decide +kernel) rfl, by decide +kernel, by decide⟩, pw_tb_in (i := 968) (by decide +kernel) rfl, pw_tb_in (i := 47) (by decide +kernel) rfl⟩
def m_X8_knight : pw_M := (8, cX8_knight, 3, (some .int))
theorem k_X8_knight : pw_okV yX8_knight m_X8_knight 2 := ⟨⟨pw_tb_in (i := 75) (by decide +kernel) rfl, pw_tb_in (i := 973) (by decide +kernel) rfl, by decide +kernel, by decide⟩, pw_tb_in (i := 971) (by decide +kernel) rfl, pw_tb_in (i := 972) (by decide +kernel) rfl⟩
def m_X8_isKnight : pw_M := (8, cX8_isKnight, 2, (some .boolean))
theorem k_X8_isKnight : pw_okV yX8_isKnight m_X8_isKnight 1 := ⟨⟨pw_tb_in (i := 75) (by decide +kernel) rfl, pw_tb_in (i := 977) (by decide +kernel) rfl, by decide +kernel, by decide⟩, pw_tb_in (i := 976) (by decide +kernel) rfl, pw_tb_in (i := 48) (by decide +kernel) rfl⟩
def m_X8_has : pw_M := (8, cX8_has, 2, (some .boolean))
theorem k_X8_has : pw_okS yX8_has m_X8_has 2 := ⟨⟨pw_tb_in (i := 75) (by decide +kernel) rfl, pw_tb_in (i := 980) (by decide +kernel) rfl, by decide +kernel, by decide⟩, pw_tb_in (i := 979) (by decide +kernel) rfl⟩
def m_X8_as : pw_M := (8, cX8_as, 6, (some .int))
theorem k_X8_as : pw_okV yX8_as m_X8_as 2 := ⟨⟨pw_tb_in (i := 75) (by decide +kernel) rfl, pw_tb_in (i := 984) (by decide +kernel) rfl, by decide +kernel, by decide⟩, pw_tb_in (i := 982) (by decide +kernel) rfl, pw_tb_in (i := 983) (by decide +kernel) rfl⟩
def m_X8_fits : pw_M := (8, cX8_fits, 3, (some .boolean))
theorem k_X8_fits : pw_okV yX8_fits m_X8_fits 2 := ⟨⟨pw_tb_in (i := 75) (by decide +kernel) rfl, pw_tb_in (i := 988) (by decide +kernel) rfl, by decide +kernel, by decide⟩, pw_tb_in (i := 987) (by decide +kernel) rfl, pw_tb_in (i := 49) (by decide +kernel) rfl⟩
def m_X8_fitsBy : pw_M := (8, cX8_fitsBy, 6, (some .boolean))
theorem k_X8_fitsBy : pw_okV yX8_fitsBy m_X8_fitsBy 3 := ⟨⟨pw_tb_in (i := 75) (by decide +kernel) rfl, pw_tb_in (i := 992) (by decide +kernel) rfl, by decide +kernel, by decide⟩, pw_tb_in (i := 991) (by decide +kernel) rfl, pw_tb_in (i := 50) (by decide +kernel) rfl⟩
def m_X8_seatAs : pw_M := (8, cX8_seatAs, 6, (some .int))
theorem k_X8_seatAs : pw_okV yX8_seatAs m_X8_seatAs 2 := ⟨⟨pw_tb_in (i := 75) (by decide +kernel) rfl, pw_tb_in (i := 996) (by decide +kernel) rfl, by decide +kernel, by decide⟩, pw_tb_in (i := 994) (by decide +kernel) rfl, pw_tb_in (i := 995) (by decide +kernel) rfl⟩
def m_X8_isThere : pw_M := (8, cX8_isThere, 2, (some .boolean))
theorem k_X8_isThere : pw_okV yX8_isThere m_X8_isThere 1 := ⟨⟨pw_tb_in (i := 75) (by decide +kernel) rfl, pw_tb_in (i := 1000) (by decide +kernel) rfl, by decide +kernel, by decide⟩, pw_tb_in (i := 999) (by decide +kernel) rfl, pw_tb_in (i := 51) (by decide +kernel) rfl⟩
def m_X8_sit : pw_M := (8, cX8_sit, 3, (some .int))
theorem k_X8_sit : pw_okV yX8_sit m_X8_sit 2 := ⟨⟨pw_tb_in (i := 75) (by decide +kernel) rfl, pw_tb_in (i := 1004) (by decide +kernel) rfl, by decide +kernel, by decide⟩, pw_tb_in (i := 1002) (by decide +kernel) rfl, pw_tb_in (i := 1003) (by decide +kernel) rfl⟩
def m_X8_remembers : pw_M := (8, cX8_remembers, 2, none)
theorem k_X8_remembers : pw_okV yX8_remembers m_X8_remembers 0 := ⟨⟨pw_tb_in (i := 75) (by decide +kernel) rfl, pw_tb_in (i := 1008) (by decide +kernel) rfl, by decide +kernel, by decide⟩, pw_tb_in (i := 1007) (by decide +kernel) rfl, pw_tb_in (i := 52) (by decide +kernel) rfl⟩
def m_X8_sitting : pw_M := (8, cX8_sitting, 3, (some .int))
theorem k_X8_sitting : pw_okV yX8_sitting m_X8_sitting 0 := ⟨⟨pw_tb_in (i := 75) (by decide +kernel) rfl, pw_tb_in (i := 1012) (by decide +kernel) rfl, by decide +kernel, by decide⟩, pw_tb_in (i := 1011) (by decide +kernel) rfl, pw_tb_in (i := 53) (by decide +kernel) rfl⟩
def m_X8_bits : pw_M := (8, cX8_bits, 3, (some .int))
theorem k_X8_bits : pw_okS yX8_bits m_X8_bits 1 := ⟨⟨pw_tb_in (i := 75) (by decide +kernel) rfl, pw_tb_in (i := 1015) (by decide +kernel) rfl, by decide +kernel, by decide⟩, pw_tb_in (i := 1014) (by decide +kernel) rfl⟩
def m_X8_rise : pw_M := (8, cX8_rise, 2, (some .int))
theorem k_X8_rise : pw_okV yX8_rise m_X8_rise 0 := ⟨⟨pw_tb_in (i := 75) (by decide +kernel) rfl, pw_tb_in (i := 1019) (by decide +kernel) rfl, by decide +kernel, by decide⟩, pw_tb_in (i := 1017) (by decide +kernel) rfl, pw_tb_in (i := 1018) (by decide +kernel) rfl⟩
def m_X8_allRise : pw_M := (8, cX8_allRise, 2, none)
theorem k_X8_allRise : pw_okV yX8_allRise m_X8_allRise 0 := ⟨⟨pw_tb_in (i := 75) (by decide +kernel) rfl, pw_tb_in (i := 1023) (by decide +kernel) rfl, by decide +kernel, by decide⟩, pw_tb_in (i := 1022) (by decide +kernel) rfl, pw_tb_in (i := 54) (by decide +kernel) rfl⟩
def m_X8_tell : pw_M := (8, cX8_tell, 3, (some .int))
theorem k_X8_tell : pw_okV yX8_tell m_X8_tell 2 := ⟨⟨pw_tb_in (i := 75) (by decide +kernel) rfl, pw_tb_in (i := 1027) (by decide +kernel) rfl, by decide +kernel, by decide⟩, pw_tb_in (i := 1025) (by decide +kernel) rfl, pw_tb_in (i := 1026) (by decide +kernel) rfl⟩
def m_X8_feast : pw_M := (8, cX8_feast, 6, (some .int))
theorem k_X8_feast : pw_okV yX8_feast m_X8_feast 0 := ⟨⟨pw_tb_in (i := 75) (by decide +kernel) rfl, pw_tb_in (i := 1031) (by decide +kernel) rfl, by decide +kernel, by decide⟩, pw_tb_in (i := 1029) (by decide +kernel) rfl, pw_tb_in (i := 1030) (by decide +kernel) rfl⟩
def m_X8_wrongs : pw_M := (8, cX8_wrongs, 3, (some .int))
theorem k_X8_wrongs : pw_okV yX8_wrongs m_X8_wrongs 0 := ⟨⟨pw_tb_in (i := 75) (by decide +kernel) rfl, pw_tb_in (i := 1035) (by decide +kernel) rfl, by decide +kernel, by decide⟩, pw_tb_in (i := 1034) (by decide +kernel) rfl, pw_tb_in (i := 55) (by decide +kernel) rfl⟩
def m_X8_isWrong : pw_M := (8, cX8_isWrong, 3, (some .boolean))
theorem k_X8_isWrong : pw_okV yX8_isWrong m_X8_isWrong 2 := ⟨⟨pw_tb_in (i := 75) (by decide +kernel) rfl, pw_tb_in (i := 1039) (by decide +kernel) rfl, by decide +kernel, by decide⟩, pw_tb_in (i := 1038) (by decide +kernel) rfl, pw_tb_in (i := 56) (by decide +kernel) rfl⟩
def m_X8_beside : pw_M := (8, cX8_beside, 3, (some .int))
theorem k_X8_beside : pw_okV yX8_beside m_X8_beside 2 := ⟨⟨pw_tb_in (i := 75) (by decide +kernel) rfl, pw_tb_in (i := 1043) (by decide +kernel) rfl, by decide +kernel, by decide⟩, pw_tb_in (i := 1042) (by decide +kernel) rfl, pw_tb_in (i := 57) (by decide +kernel) rfl⟩
def m_X8_areEnemies : pw_M := (8, cX8_areEnemies, 3, (some .boolean))
theorem k_X8_areEnemies : pw_okV yX8_areEnemies m_X8_areEnemies 2 := ⟨⟨pw_tb_in (i := 75) (by decide +kernel) rfl, pw_tb_in (i := 1047) (by decide +kernel) rfl, by decide +kernel, by decide⟩, pw_tb_in (i := 1046) (by decide +kernel) rfl, pw_tb_in (i := 58) (by decide +kernel) rfl⟩
def m_X8_undo : pw_M := (8, cX8_undo, 2, (some .int))
theorem k_X8_undo : pw_okV yX8_undo m_X8_undo 0 := ⟨⟨pw_tb_in (i := 75) (by decide +kernel) rfl, pw_tb_in (i := 1051) (by decide +kernel) rfl, by decide +kernel, by decide⟩, pw_tb_in (i := 1049) (by decide +kernel) rfl, pw_tb_in (i := 1050) (by decide +kernel) rfl⟩
def m_X8_keep : pw_M := (8, cX8_keep, 3, (some .int))
theorem k_X8_keep : pw_okV yX8_keep m_X8_keep 1 := ⟨⟨pw_tb_in (i := 75) (by decide +kernel) rfl, pw_tb_in (i := 1055) (by decide +kernel) rfl, by decide +kernel, by decide⟩, pw_tb_in (i := 1053) (by decide +kernel) rfl, pw_tb_in (i := 1054) (by decide +kernel) rfl⟩
def m_X8_back : pw_M := (8, cX8_back, 3, (some .int))
theorem k_X8_back : pw_okV yX8_back m_X8_back 1 := ⟨⟨pw_tb_in (i := 75) (by decide +kernel) rfl, pw_tb_in (i := 1059) (by decide +kernel) rfl, by decide +kernel, by decide⟩, pw_tb_in (i := 1057) (by decide +kernel) rfl, pw_tb_in (i := 1058) (by decide +kernel) rfl⟩
def m_X8_seatings : pw_M := (8, cX8_seatings, 1, (some .int))
theorem k_X8_seatings : pw_okV yX8_seatings m_X8_seatings 0 := ⟨⟨pw_tb_in (i := 75) (by decide +kernel) rfl, pw_tb_in (i := 1063) (by decide +kernel) rfl, by decide +kernel, by decide⟩, pw_tb_in (i := 1061) (by decide +kernel) rfl, pw_tb_in (i := 1062) (by decide +kernel) rfl⟩
def m_X8_findSeatings : pw_M := (8, cX8_findSeatings, 4, none)
theorem k_X8_findSeatings : pw_okV yX8_findSeatings m_X8_findSeatings 1 := ⟨⟨pw_tb_in (i := 75) (by decide +kernel) rfl, pw_tb_in (i := 1067) (by decide +kernel) rfl, by decide +kernel, by decide⟩, pw_tb_in (i := 1066) (by decide +kernel) rfl, pw_tb_in (i := 59) (by decide +kernel) rfl⟩
def m_X8_nextThere : pw_M := (8, cX8_nextThere, 4, (some .int))
theorem k_X8_nextThere : pw_okV yX8_nextThere m_X8_nextThere 2 := ⟨⟨pw_tb_in (i := 75) (by decide +kernel) rfl, pw_tb_in (i := 1071) (by decide +kernel) rfl, by decide +kernel, by decide⟩, pw_tb_in (i := 1070) (by decide +kernel) rfl, pw_tb_in (i := 60) (by decide +kernel) rfl⟩
def m_X8_finds : pw_M := (8, cX8_finds, 6, none)
theorem k_X8_finds : pw_okV yX8_finds m_X8_finds 1 := ⟨⟨pw_tb_in (i := 75) (by decide +kernel) rfl, pw_tb_in (i := 1075) (by decide +kernel) rfl, by decide +kernel, by decide⟩, pw_tb_in (i := 1074) (by decide +kernel) rfl, pw_tb_in (i := 61) (by decide +kernel) rfl⟩
def m_X8_sitterBy : pw_M := (8, cX8_sitterBy, 4, (some .int))
theorem k_X8_sitterBy : pw_okV yX8_sitterBy m_X8_sitterBy 1 := ⟨⟨pw_tb_in (i := 75) (by decide +kernel) rfl, pw_tb_in (i := 1079) (by decide +kernel) rfl, by decide +kernel, by decide⟩, pw_tb_in (i := 1078) (by decide +kernel) rfl, pw_tb_in (i := 62) (by decide +kernel) rfl⟩
def m_X8_maySit : pw_M := (8, cX8_maySit, 5, (some .boolean))
theorem k_X8_maySit : pw_okV yX8_maySit m_X8_maySit 2 := ⟨⟨pw_tb_in (i := 75) (by decide +kernel) rfl, pw_tb_in (i := 1083) (by decide +kernel) rfl, by decide +kernel, by decide⟩, pw_tb_in (i := 1082) (by decide +kernel) rfl, pw_tb_in (i := 63) (by decide +kernel) rfl⟩
def m_X8_seatOf : pw_M := (8, cX8_seatOf, 2, (some .int))
theorem k_X8_seatOf : pw_okV yX8_seatOf m_X8_seatOf 1 := ⟨⟨pw_tb_in (i := 75) (by decide +kernel) rfl, pw_tb_in (i := 1087) (by decide +kernel) rfl, by decide +kernel, by decide⟩, pw_tb_in (i := 1085) (by decide +kernel) rfl, pw_tb_in (i := 1086) (by decide +kernel) rfl⟩
def m_X8_moved : pw_M := (8, cX8_moved, 1, (some .int))
theorem k_X8_moved : pw_okV yX8_moved m_X8_moved 0 := ⟨⟨pw_tb_in (i := 75) (by decide +kernel) rfl, pw_tb_in (i := 1091) (by decide +kernel) rfl, by decide +kernel, by decide⟩, pw_tb_in (i := 1089) (by decide +kernel) rfl, pw_tb_in (i := 1090) (by decide +kernel) rfl⟩
def m_X8_knows : pw_M := (8, cX8_knows, 2, (some .int))
theorem k_X8_knows : pw_okV yX8_knows m_X8_knows 1 := ⟨⟨pw_tb_in (i := 75) (by decide +kernel) rfl, pw_tb_in (i := 1095) (by decide +kernel) rfl, by decide +kernel, by decide⟩, pw_tb_in (i := 1093) (by decide +kernel) rfl, pw_tb_in (i := 1094) (by decide +kernel) rfl⟩
def m_X8_judge : pw_M := (8, cX8_judge, 4, (some .int))
theorem k_X8_judge : pw_okV yX8_judge m_X8_judge 1 := ⟨⟨pw_tb_in (i := 75) (by decide +kernel) rfl, pw_tb_in (i := 1099) (by decide +kernel) rfl, by decide +kernel, by decide⟩, pw_tb_in (i := 1097) (by decide +kernel) rfl, pw_tb_in (i := 1098) (by decide +kernel) rfl⟩
def m_X8_seen : pw_M := (8, cX8_seen, 5, (some .int))
theorem k_X8_seen : pw_okV yX8_seen m_X8_seen 4 := ⟨⟨pw_tb_in (i := 75) (by decide +kernel) rfl, pw_tb_in (i := 1103) (by decide +kernel) rfl, by decide +kernel, by decide⟩, pw_tb_in (i := 1101) (by decide +kernel) rfl, pw_tb_in (i := 1102) (by decide +kernel) rfl⟩
def m_X8_forget : pw_M := (8, cX8_forget, 2, (some .int))
theorem k_X8_forget : pw_okV yX8_forget m_X8_forget 0 := ⟨⟨pw_tb_in (i := 75) (by decide +kernel) rfl, pw_tb_in (i := 1107) (by decide +kernel) rfl, by decide +kernel, by decide⟩, pw_tb_in (i := 1105) (by decide +kernel) rfl, pw_tb_in (i := 1106) (by decide +kernel) rfl⟩
def m_X8_worlds : pw_M := (8, cX8_worlds, 9, (some .int))
theorem k_X8_worlds : pw_okV yX8_worlds m_X8_worlds 1 := ⟨⟨pw_tb_in (i := 75) (by decide +kernel) rfl, pw_tb_in (i := 1111) (by decide +kernel) rfl, by decide +kernel, by decide⟩, pw_tb_in (i := 1109) (by decide +kernel) rfl, pw_tb_in (i := 1110) (by decide +kernel) rfl⟩
def m_X8_isWorld : pw_M := (8, cX8_isWorld, 7, (some .boolean))
theorem k_X8_isWorld : pw_okV yX8_isWorld m_X8_isWorld 3 := ⟨⟨pw_tb_in (i := 75) (by decide +kernel) rfl, pw_tb_in (i := 1115) (by decide +kernel) rfl, by decide +kernel, by decide⟩, pw_tb_in (i := 1114) (by decide +kernel) rfl, pw_tb_in (i := 64) (by decide +kernel) rfl⟩
def m_X8_safest : pw_M := (8, cX8_safest, 8, (some .int))
theorem k_X8_safest : pw_okV yX8_safest m_X8_safest 2 := ⟨⟨pw_tb_in (i := 75) (by decide +kernel) rfl, pw_tb_in (i := 1119) (by decide +kernel) rfl, by decide +kernel, by decide⟩, pw_tb_in (i := 1117) (by decide +kernel) rfl, pw_tb_in (i := 1118) (by decide +kernel) rfl⟩
def m_X8_dangers : pw_M := (8, cX8_dangers, 8, (some .int))
theorem k_X8_dangers : pw_okV yX8_dangers m_X8_dangers 2 := ⟨⟨pw_tb_in (i := 75) (by decide +kernel) rfl, pw_tb_in (i := 1123) (by decide +kernel) rfl, by decide +kernel, by decide⟩, pw_tb_in (i := 1122) (by decide +kernel) rfl, pw_tb_in (i := 65) (by decide +kernel) rfl⟩
def m_X8_quests : pw_M := (8, cX8_quests, 16, (some .long))
theorem k_X8_quests : pw_okV yX8_quests m_X8_quests 5 := ⟨⟨pw_tb_in (i := 75) (by decide +kernel) rfl, pw_tb_in (i := 1127) (by decide +kernel) rfl, by decide +kernel, by decide⟩, pw_tb_in (i := 1125) (by decide +kernel) rfl, pw_tb_in (i := 1126) (by decide +kernel) rfl⟩
def m_X8_lent : pw_M := (8, cX8_lent, 3, (some .int))
theorem k_X8_lent : pw_okV yX8_lent m_X8_lent 1 := ⟨⟨pw_tb_in (i := 75) (by decide +kernel) rfl, pw_tb_in (i := 1134) (by decide +kernel) rfl, by decide +kernel, by decide⟩, pw_tb_in (i := 1132) (by decide +kernel) rfl, pw_tb_in (i := 1133) (by decide +kernel) rfl⟩
def m_X8_count : pw_M := (8, cX8_count, 4, (some .int))
theorem k_X8_count : pw_okV yX8_count m_X8_count 1 := ⟨⟨pw_tb_in (i := 75) (by decide +kernel) rfl, pw_tb_in (i := 1138) (by decide +kernel) rfl, by decide +kernel, by decide⟩, pw_tb_in (i := 1136) (by decide +kernel) rfl, pw_tb_in (i := 1137) (by decide +kernel) rfl⟩
theorem l_7_65 : Cond.methodLink (pw_on 7) 65 yX3_add ∈ pw_tb := pw_tb_in (i := 360) (by decide +kernel) rfl
theorem l_7_69 : Cond.methodLink (pw_on 7) 69 yX2_read ∈ pw_tb := pw_tb_in (i := 372) (by decide +kernel) rfl
theorem l_7_73 : Cond.methodLink (pw_on 7) 73 yX0_begin ∈ pw_tb := pw_tb_in (i := 454) (by decide +kernel) rfl
theorem l_7_77 : Cond.methodLink (pw_on 7) 77 yX1_clear ∈ pw_tb := pw_tb_in (i := 462) (by decide +kernel) rfl
theorem l_7_86 : Cond.methodLink (pw_on 7) 86 yX7_isSeat ∈ pw_tb := pw_tb_in (i := 470) (by decide +kernel) rfl
theorem l_7_96 : Cond.methodLink (pw_on 7) 96 yX0_whoSitsOn ∈ pw_tb := pw_tb_in (i := 474) (by decide +kernel) rfl
theorem l_7_103 : Cond.methodLink (pw_on 7) 103 yX5_perilOn ∈ pw_tb := pw_tb_in (i := 478) (by decide +kernel) rfl
theorem l_7_106 : Cond.methodLink (pw_on 7) 106 yX7_isKnight ∈ pw_tb := pw_tb_in (i := 490) (by decide +kernel) rfl
theorem l_7_124 : Cond.methodLink (pw_on 7) 124 yX7_has ∈ pw_tb := pw_tb_in (i := 494) (by decide +kernel) rfl
theorem l_7_137 : Cond.methodLink (pw_on 7) 137 yX7_isOfKind ∈ pw_tb := pw_tb_in (i := 503) (by decide +kernel) rfl
theorem l_7_144 : Cond.methodLink (pw_on 7) 144 yX7_fitsNow ∈ pw_tb := pw_tb_in (i := 506) (by decide +kernel) rfl
theorem l_7_153 : Cond.methodLink (pw_on 7) 153 yX1_remember ∈ pw_tb := pw_tb_in (i := 524) (by decide +kernel) rfl
theorem l_7_157 : Cond.methodLink (pw_on 7) 157 yX0_whoSit ∈ pw_tb := pw_tb_in (i := 535) (by decide +kernel) rfl
theorem l_7_161 : Cond.methodLink (pw_on 7) 161 yJ6_bitCount_0f7a4 ∈ pw_tb := pw_tb_in (i := 539) (by decide +kernel) rfl
theorem l_7_166 : Cond.methodLink (pw_on 7) 166 yX0_allRise ∈ pw_tb := pw_tb_in (i := 549) (by decide +kernel) rfl
theorem l_7_169 : Cond.methodLink (pw_on 7) 169 yX7_isNews ∈ pw_tb := pw_tb_in (i := 554) (by decide +kernel) rfl
theorem l_7_172 : Cond.methodLink (pw_on 7) 172 yX7_whoIsWrong ∈ pw_tb := pw_tb_in (i := 561) (by decide +kernel) rfl
theorem l_7_175 : Cond.methodLink (pw_on 7) 175 yX7_changeRenown ∈ pw_tb := pw_tb_in (i := 569) (by decide +kernel) rfl
theorem l_7_178 : Cond.methodLink (pw_on 7) 178 yX7_spreadNews ∈ pw_tb := pw_tb_in (i := 591) (by decide +kernel) rfl
theorem l_7_184 : Cond.methodLink (pw_on 7) 184 yX1_recall ∈ pw_tb := pw_tb_in (i := 599) (by decide +kernel) rfl
theorem l_7_191 : Cond.methodLink (pw_on 7) 191 yX0_copy ∈ pw_tb := pw_tb_in (i := 607) (by decide +kernel) rfl
theorem l_7_197 : Cond.methodLink (pw_on 7) 197 yX7_prepareSearch ∈ pw_tb := pw_tb_in (i := 616) (by decide +kernel) rfl
theorem l_7_200 : Cond.methodLink (pw_on 7) 200 yX4_ways ∈ pw_tb := pw_tb_in (i := 620) (by decide +kernel) rfl
theorem l_7_203 : Cond.methodLink (pw_on 7) 203 yX4_first ∈ pw_tb := pw_tb_in (i := 644) (by decide +kernel) rfl
theorem l_7_208 : Cond.methodLink (pw_on 7) 208 yX4_fewestAway ∈ pw_tb := pw_tb_in (i := 656) (by decide +kernel) rfl
theorem l_7_211 : Cond.methodLink (pw_on 7) 211 yX7_whoKnows ∈ pw_tb := pw_tb_in (i := 668) (by decide +kernel) rfl
theorem l_7_214 : Cond.methodLink (pw_on 7) 214 yX4_mostKnow ∈ pw_tb := pw_tb_in (i := 672) (by decide +kernel) rfl
theorem l_7_217 : Cond.methodLink (pw_on 7) 217 yX7_quarrels ∈ pw_tb := pw_tb_in (i := 690) (by decide +kernel) rfl
theorem l_7_220 : Cond.methodLink (pw_on 7) 220 yX6_note ∈ pw_tb := pw_tb_in (i := 698) (by decide +kernel) rfl
theorem l_7_224 : Cond.methodLink (pw_on 7) 224 yX6_survey ∈ pw_tb := pw_tb_in (i := 710) (by decide +kernel) rfl
theorem l_7_244 : Cond.methodLink (pw_on 7) 244 yJ9_min_7cf53 ∈ pw_tb := pw_tb_in (i := 590) (by decide +kernel) rfl
theorem l_7_250 : Cond.methodLink (pw_on 7) 250 yX5_fits ∈ pw_tb := pw_tb_in (i := 510) (by decide +kernel) rfl
theorem l_7_254 : Cond.methodLink (pw_on 7) 254 yX7_power ∈ pw_tb := pw_tb_in (i := 729) (by decide +kernel) rfl
theorem l_7_258 : Cond.methodLink (pw_on 7) 258 yX7_commonDivisor ∈ pw_tb := pw_tb_in (i := 732) (by decide +kernel) rfl
theorem l_7_262 : Cond.methodLink (pw_on 7) 262 yX5_pairsOfEnemies ∈ pw_tb := pw_tb_in (i := 743) (by decide +kernel) rfl
theorem l_7_268 : Cond.methodLink (pw_on 7) 268 yX7_isInPeril ∈ pw_tb := pw_tb_in (i := 565) (by decide +kernel) rfl
theorem l_7_271 : Cond.methodLink (pw_on 7) 271 yX7_behind ∈ pw_tb := pw_tb_in (i := 577) (by decide +kernel) rfl
theorem l_7_274 : Cond.methodLink (pw_on 7) 274 yX7_whoSitsBehind ∈ pw_tb := pw_tb_in (i := 573) (by decide +kernel) rfl
theorem l_7_277 : Cond.methodLink (pw_on 7) 277 yX7_areEnemies ∈ pw_tb := pw_tb_in (i := 580) (by decide +kernel) rfl
theorem l_7_280 : Cond.methodLink (pw_on 7) 280 yX7_ahead ∈ pw_tb := pw_tb_in (i := 584) (by decide +kernel) rfl
theorem l_7_283 : Cond.methodLink (pw_on 7) 283 yJ9_max_7cf53 ∈ pw_tb := pw_tb_in (i := 587) (by decide +kernel) rfl
theorem l_0_34 : Cond.methodLink (pw_on 0) 34 yX0_allRise ∈ pw_tb := pw_tb_in (i := 458) (by decide +kernel) rfl
theorem l_1_31 : Cond.methodLink (pw_on 1) 31 yX0_copy ∈ pw_tb := pw_tb_in (i := 528) (by decide +kernel) rfl
theorem l_1_35 : Cond.methodLink (pw_on 1) 35 yJ9_min_7cf53 ∈ pw_tb := pw_tb_in (i := 532) (by decide +kernel) rfl
theorem l_2_18 : Cond.methodLink (pw_on 2) 18 yX3_rewind ∈ pw_tb := pw_tb_in (i := 376) (by decide +kernel) rfl
theorem l_2_35 : Cond.methodLink (pw_on 2) 35 yX2_readClause ∈ pw_tb := pw_tb_in (i := 380) (by decide +kernel) rfl
theorem l_2_51 : Cond.methodLink (pw_on 2) 51 yX5_obey ∈ pw_tb := pw_tb_in (i := 422) (by decide +kernel) rfl
theorem l_2_55 : Cond.methodLink (pw_on 2) 55 yX3_advance ∈ pw_tb := pw_tb_in (i := 384) (by decide +kernel) rfl
theorem l_2_61 : Cond.methodLink (pw_on 2) 61 yX3_isSemicolon ∈ pw_tb := pw_tb_in (i := 446) (by decide +kernel) rfl
theorem l_2_64 : Cond.methodLink (pw_on 2) 64 yX2_wordThatStandsHere ∈ pw_tb := pw_tb_in (i := 391) (by decide +kernel) rfl
theorem l_2_68 : Cond.methodLink (pw_on 2) 68 yX2_isKnightWord ∈ pw_tb := pw_tb_in (i := 397) (by decide +kernel) rfl
theorem l_2_72 : Cond.methodLink (pw_on 2) 72 yX2_numbersBehind ∈ pw_tb := pw_tb_in (i := 400) (by decide +kernel) rfl
theorem l_2_76 : Cond.methodLink (pw_on 2) 76 yX3_number ∈ pw_tb := pw_tb_in (i := 403) (by decide +kernel) rfl
theorem l_2_79 : Cond.methodLink (pw_on 2) 79 yX2_leastNumber ∈ pw_tb := pw_tb_in (i := 407) (by decide +kernel) rfl
theorem l_2_82 : Cond.methodLink (pw_on 2) 82 yX2_mostFirst ∈ pw_tb := pw_tb_in (i := 410) (by decide +kernel) rfl
theorem l_2_85 : Cond.methodLink (pw_on 2) 85 yX2_mostSecond ∈ pw_tb := pw_tb_in (i := 414) (by decide +kernel) rfl
theorem l_2_88 : Cond.methodLink (pw_on 2) 88 yX2_tally ∈ pw_tb := pw_tb_in (i := 418) (by decide +kernel) rfl
theorem l_3_28 : Cond.methodLink (pw_on 3) 28 yX3_tokenOf ∈ pw_tb := pw_tb_in (i := 388) (by decide +kernel) rfl
theorem l_4_24 : Cond.methodLink (pw_on 4) 24 yX4_waysFrom ∈ pw_tb := pw_tb_in (i := 624) (by decide +kernel) rfl
theorem l_4_28 : Cond.methodLink (pw_on 4) 28 yX4_firstFrom ∈ pw_tb := pw_tb_in (i := 648) (by decide +kernel) rfl
theorem l_4_32 : Cond.methodLink (pw_on 4) 32 yX4_fewestFrom ∈ pw_tb := pw_tb_in (i := 660) (by decide +kernel) rfl
theorem l_4_43 : Cond.methodLink (pw_on 4) 43 yJ6_bitCount_0f7a4 ∈ pw_tb := pw_tb_in (i := 639) (by decide +kernel) rfl
theorem l_4_49 : Cond.methodLink (pw_on 4) 49 yJ9_min_7cf53 ∈ pw_tb := pw_tb_in (i := 676) (by decide +kernel) rfl
theorem l_4_57 : Cond.methodLink (pw_on 4) 57 yX4_mostFrom ∈ pw_tb := pw_tb_in (i := 677) (by decide +kernel) rfl
theorem l_4_66 : Cond.methodLink (pw_on 4) 66 yX4_freeSeats ∈ pw_tb := pw_tb_in (i := 629) (by decide +kernel) rfl
theorem l_4_72 : Cond.methodLink (pw_on 4) 72 yX4_knowAfterwards ∈ pw_tb := pw_tb_in (i := 681) (by decide +kernel) rfl
theorem l_4_75 : Cond.methodLink (pw_on 4) 75 yJ9_max_7cf53 ∈ pw_tb := pw_tb_in (i := 685) (by decide +kernel) rfl
theorem l_4_78 : Cond.methodLink (pw_on 4) 78 yX4_besides ∈ pw_tb := pw_tb_in (i := 633) (by decide +kernel) rfl
theorem l_5_34 : Cond.methodLink (pw_on 5) 34 yX5_layTable ∈ pw_tb := pw_tb_in (i := 426) (by decide +kernel) rfl
theorem l_5_38 : Cond.methodLink (pw_on 5) 38 yX5_nameSeat ∈ pw_tb := pw_tb_in (i := 434) (by decide +kernel) rfl
theorem l_5_42 : Cond.methodLink (pw_on 5) 42 yX5_addKnight ∈ pw_tb := pw_tb_in (i := 438) (by decide +kernel) rfl
theorem l_5_45 : Cond.methodLink (pw_on 5) 45 yX5_makeEnemies ∈ pw_tb := pw_tb_in (i := 442) (by decide +kernel) rfl
theorem l_5_55 : Cond.methodLink (pw_on 5) 55 yX5_makePeace ∈ pw_tb := pw_tb_in (i := 430) (by decide +kernel) rfl
theorem l_5_64 : Cond.methodLink (pw_on 5) 64 yJ6_bitCount_0f7a4 ∈ pw_tb := pw_tb_in (i := 747) (by decide +kernel) rfl
theorem l_5_70 : Cond.methodLink (pw_on 5) 70 yX5_perilFrom ∈ pw_tb := pw_tb_in (i := 482) (by decide +kernel) rfl
theorem l_6_46 : Cond.methodLink (pw_on 6) 46 yX5_perilFrom ∈ pw_tb := pw_tb_in (i := 714) (by decide +kernel) rfl
theorem l_6_53 : Cond.methodLink (pw_on 6) 53 yX6_isWorld ∈ pw_tb := pw_tb_in (i := 715) (by decide +kernel) rfl
theorem l_9_13 : Cond.methodLink (pw_on 9) 13 yX7_write ∈ pw_tb := pw_tb_in (i := 356) (by decide +kernel) rfl
theorem l_9_17 : Cond.methodLink (pw_on 9) 17 yX8_write ∈ pw_tb := pw_tb_in (i := 873) (by decide +kernel) rfl
theorem l_9_18 : Cond.methodLink (pw_on 9) 18 yX7_erase ∈ pw_tb := pw_tb_in (i := 364) (by decide +kernel) rfl
theorem l_9_22 : Cond.methodLink (pw_on 9) 22 yX8_erase ∈ pw_tb := pw_tb_in (i := 880) (by decide +kernel) rfl
theorem l_9_23 : Cond.methodLink (pw_on 9) 23 yX7_fault ∈ pw_tb := pw_tb_in (i := 368) (by decide +kernel) rfl
theorem l_9_26 : Cond.methodLink (pw_on 9) 26 yX8_fault ∈ pw_tb := pw_tb_in (i := 884) (by decide +kernel) rfl
theorem l_9_27 : Cond.methodLink (pw_on 9) 27 yX7_table ∈ pw_tb := pw_tb_in (i := 450) (by decide +kernel) rfl
theorem l_9_30 : Cond.methodLink (pw_on 9) 30 yX8_table ∈ pw_tb := pw_tb_in (i := 950) (by decide +kernel) rfl
theorem l_9_31 : Cond.methodLink (pw_on 9) 31 yX7_seat ∈ pw_tb := pw_tb_in (i := 466) (by decide +kernel) rfl
theorem l_9_35 : Cond.methodLink (pw_on 9) 35 yX8_seat ∈ pw_tb := pw_tb_in (i := 954) (by decide +kernel) rfl
theorem l_9_36 : Cond.methodLink (pw_on 9) 36 yX7_knight ∈ pw_tb := pw_tb_in (i := 486) (by decide +kernel) rfl
theorem l_9_39 : Cond.methodLink (pw_on 9) 39 yX8_knight ∈ pw_tb := pw_tb_in (i := 970) (by decide +kernel) rfl
theorem l_9_40 : Cond.methodLink (pw_on 9) 40 yX7_as ∈ pw_tb := pw_tb_in (i := 497) (by decide +kernel) rfl
theorem l_9_43 : Cond.methodLink (pw_on 9) 43 yX8_as ∈ pw_tb := pw_tb_in (i := 981) (by decide +kernel) rfl
theorem l_9_44 : Cond.methodLink (pw_on 9) 44 yX7_seatAs ∈ pw_tb := pw_tb_in (i := 514) (by decide +kernel) rfl
theorem l_9_47 : Cond.methodLink (pw_on 9) 47 yX8_seatAs ∈ pw_tb := pw_tb_in (i := 993) (by decide +kernel) rfl
theorem l_9_48 : Cond.methodLink (pw_on 9) 48 yX7_sit ∈ pw_tb := pw_tb_in (i := 520) (by decide +kernel) rfl
theorem l_9_51 : Cond.methodLink (pw_on 9) 51 yX8_sit ∈ pw_tb := pw_tb_in (i := 1001) (by decide +kernel) rfl
theorem l_9_52 : Cond.methodLink (pw_on 9) 52 yX7_rise ∈ pw_tb := pw_tb_in (i := 545) (by decide +kernel) rfl
theorem l_9_55 : Cond.methodLink (pw_on 9) 55 yX8_rise ∈ pw_tb := pw_tb_in (i := 1016) (by decide +kernel) rfl
theorem l_9_56 : Cond.methodLink (pw_on 9) 56 yX7_tell ∈ pw_tb := pw_tb_in (i := 550) (by decide +kernel) rfl
theorem l_9_59 : Cond.methodLink (pw_on 9) 59 yX8_tell ∈ pw_tb := pw_tb_in (i := 1024) (by decide +kernel) rfl
theorem l_9_60 : Cond.methodLink (pw_on 9) 60 yX7_feast ∈ pw_tb := pw_tb_in (i := 557) (by decide +kernel) rfl
theorem l_9_63 : Cond.methodLink (pw_on 9) 63 yX8_feast ∈ pw_tb := pw_tb_in (i := 1028) (by decide +kernel) rfl
theorem l_9_64 : Cond.methodLink (pw_on 9) 64 yX7_undo ∈ pw_tb := pw_tb_in (i := 595) (by decide +kernel) rfl
theorem l_9_67 : Cond.methodLink (pw_on 9) 67 yX8_undo ∈ pw_tb := pw_tb_in (i := 1048) (by decide +kernel) rfl
theorem l_9_68 : Cond.methodLink (pw_on 9) 68 yX7_keep ∈ pw_tb := pw_tb_in (i := 603) (by decide +kernel) rfl
theorem l_9_71 : Cond.methodLink (pw_on 9) 71 yX8_keep ∈ pw_tb := pw_tb_in (i := 1052) (by decide +kernel) rfl
theorem l_9_72 : Cond.methodLink (pw_on 9) 72 yX7_back ∈ pw_tb := pw_tb_in (i := 608) (by decide +kernel) rfl
theorem l_9_75 : Cond.methodLink (pw_on 9) 75 yX8_back ∈ pw_tb := pw_tb_in (i := 1056) (by decide +kernel) rfl
theorem l_9_76 : Cond.methodLink (pw_on 9) 76 yX7_seatings ∈ pw_tb := pw_tb_in (i := 612) (by decide +kernel) rfl
theorem l_9_79 : Cond.methodLink (pw_on 9) 79 yX8_seatings ∈ pw_tb := pw_tb_in (i := 1060) (by decide +kernel) rfl
theorem l_9_80 : Cond.methodLink (pw_on 9) 80 yX7_seatOf ∈ pw_tb := pw_tb_in (i := 640) (by decide +kernel) rfl
theorem l_9_83 : Cond.methodLink (pw_on 9) 83 yX8_seatOf ∈ pw_tb := pw_tb_in (i := 1084) (by decide +kernel) rfl
theorem l_9_84 : Cond.methodLink (pw_on 9) 84 yX7_moved ∈ pw_tb := pw_tb_in (i := 652) (by decide +kernel) rfl
theorem l_9_87 : Cond.methodLink (pw_on 9) 87 yX8_moved ∈ pw_tb := pw_tb_in (i := 1088) (by decide +kernel) rfl
theorem l_9_88 : Cond.methodLink (pw_on 9) 88 yX7_knows ∈ pw_tb := pw_tb_in (i := 664) (by decide +kernel) rfl
theorem l_9_91 : Cond.methodLink (pw_on 9) 91 yX8_knows ∈ pw_tb := pw_tb_in (i := 1092) (by decide +kernel) rfl
theorem l_9_92 : Cond.methodLink (pw_on 9) 92 yX7_judge ∈ pw_tb := pw_tb_in (i := 686) (by decide +kernel) rfl
theorem l_9_95 : Cond.methodLink (pw_on 9) 95 yX8_judge ∈ pw_tb := pw_tb_in (i := 1096) (by decide +kernel) rfl
theorem l_9_96 : Cond.methodLink (pw_on 9) 96 yX7_seen ∈ pw_tb := pw_tb_in (i := 694) (by decide +kernel) rfl
theorem l_9_100 : Cond.methodLink (pw_on 9) 100 yX8_seen ∈ pw_tb := pw_tb_in (i := 1100) (by decide +kernel) rfl
theorem l_9_101 : Cond.methodLink (pw_on 9) 101 yX7_forget ∈ pw_tb := pw_tb_in (i := 702) (by decide +kernel) rfl
theorem l_9_104 : Cond.methodLink (pw_on 9) 104 yX8_forget ∈ pw_tb := pw_tb_in (i := 1104) (by decide +kernel) rfl
theorem l_9_105 : Cond.methodLink (pw_on 9) 105 yX7_worlds ∈ pw_tb := pw_tb_in (i := 706) (by decide +kernel) rfl
theorem l_9_108 : Cond.methodLink (pw_on 9) 108 yX8_worlds ∈ pw_tb := pw_tb_in (i := 1108) (by decide +kernel) rfl
theorem l_9_109 : Cond.methodLink (pw_on 9) 109 yX7_safest ∈ pw_tb := pw_tb_in (i := 719) (by decide +kernel) rfl
theorem l_9_112 : Cond.methodLink (pw_on 9) 112 yX8_safest ∈ pw_tb := pw_tb_in (i := 1116) (by decide +kernel) rfl
theorem l_9_113 : Cond.methodLink (pw_on 9) 113 yX7_quests ∈ pw_tb := pw_tb_in (i := 723) (by decide +kernel) rfl
theorem l_9_117 : Cond.methodLink (pw_on 9) 117 yX8_quests ∈ pw_tb := pw_tb_in (i := 1124) (by decide +kernel) rfl
theorem l_9_118 : Cond.methodLink (pw_on 9) 118 yX7_lent ∈ pw_tb := pw_tb_in (i := 735) (by decide +kernel) rfl
theorem l_9_121 : Cond.methodLink (pw_on 9) 121 yX8_lent ∈ pw_tb := pw_tb_in (i := 1131) (by decide +kernel) rfl
theorem l_9_122 : Cond.methodLink (pw_on 9) 122 yX7_count ∈ pw_tb := pw_tb_in (i := 739) (by decide +kernel) rfl
theorem l_9_125 : Cond.methodLink (pw_on 9) 125 yX8_count ∈ pw_tb := pw_tb_in (i := 1135) (by decide +kernel) rfl
theorem l_8_63 : Cond.methodLink (pw_on 8) 63 yX8_begins ∈ pw_tb := pw_tb_in (i := 754) (by decide +kernel) rfl
theorem l_8_78 : Cond.methodLink (pw_on 8) 78 yX8_in ∈ pw_tb := pw_tb_in (i := 877) (by decide +kernel) rfl
theorem l_8_82 : Cond.methodLink (pw_on 8) 82 yX8_isKnight ∈ pw_tb := pw_tb_in (i := 974) (by decide +kernel) rfl
theorem l_8_86 : Cond.methodLink (pw_on 8) 86 yX8_has ∈ pw_tb := pw_tb_in (i := 978) (by decide +kernel) rfl
theorem l_8_96 : Cond.methodLink (pw_on 8) 96 yX8_letterAt ∈ pw_tb := pw_tb_in (i := 896) (by decide +kernel) rfl
theorem l_8_109 : Cond.methodLink (pw_on 8) 109 yX8_isSmall ∈ pw_tb := pw_tb_in (i := 900) (by decide +kernel) rfl
theorem l_8_112 : Cond.methodLink (pw_on 8) 112 yX8_isFigure ∈ pw_tb := pw_tb_in (i := 903) (by decide +kernel) rfl
theorem l_8_115 : Cond.methodLink (pw_on 8) 115 yX8_spells ∈ pw_tb := pw_tb_in (i := 914) (by decide +kernel) rfl
theorem l_8_119 : Cond.methodLink (pw_on 8) 119 yX8_otherWord ∈ pw_tb := pw_tb_in (i := 918) (by decide +kernel) rfl
theorem l_8_127 : Cond.methodLink (pw_on 8) 127 yX8_next ∈ pw_tb := pw_tb_in (i := 892) (by decide +kernel) rfl
theorem l_8_145 : Cond.methodLink (pw_on 8) 145 yX8_number ∈ pw_tb := pw_tb_in (i := 926) (by decide +kernel) rfl
theorem l_8_149 : Cond.methodLink (pw_on 8) 149 yX8_laysTable ∈ pw_tb := pw_tb_in (i := 930) (by decide +kernel) rfl
theorem l_8_153 : Cond.methodLink (pw_on 8) 153 yX8_wordOf ∈ pw_tb := pw_tb_in (i := 910) (by decide +kernel) rfl
theorem l_8_156 : Cond.methodLink (pw_on 8) 156 yX8_readTable ∈ pw_tb := pw_tb_in (i := 922) (by decide +kernel) rfl
theorem l_8_159 : Cond.methodLink (pw_on 8) 159 yX8_readName ∈ pw_tb := pw_tb_in (i := 934) (by decide +kernel) rfl
theorem l_8_162 : Cond.methodLink (pw_on 8) 162 yX8_readKnight ∈ pw_tb := pw_tb_in (i := 938) (by decide +kernel) rfl
theorem l_8_165 : Cond.methodLink (pw_on 8) 165 yX8_readEnemies ∈ pw_tb := pw_tb_in (i := 942) (by decide +kernel) rfl
theorem l_8_168 : Cond.methodLink (pw_on 8) 168 yX8_readPeril ∈ pw_tb := pw_tb_in (i := 946) (by decide +kernel) rfl
theorem l_8_180 : Cond.methodLink (pw_on 8) 180 yX8_readClause ∈ pw_tb := pw_tb_in (i := 906) (by decide +kernel) rfl
theorem l_8_183 : Cond.methodLink (pw_on 8) 183 yX8_reads ∈ pw_tb := pw_tb_in (i := 888) (by decide +kernel) rfl
theorem l_8_186 : Cond.methodLink (pw_on 8) 186 yX8_fitsBy ∈ pw_tb := pw_tb_in (i := 989) (by decide +kernel) rfl
theorem l_8_189 : Cond.methodLink (pw_on 8) 189 yX8_fits ∈ pw_tb := pw_tb_in (i := 985) (by decide +kernel) rfl
theorem l_8_192 : Cond.methodLink (pw_on 8) 192 yX8_perilOn ∈ pw_tb := pw_tb_in (i := 966) (by decide +kernel) rfl
theorem l_8_195 : Cond.methodLink (pw_on 8) 195 yX8_isSeat ∈ pw_tb := pw_tb_in (i := 958) (by decide +kernel) rfl
theorem l_8_198 : Cond.methodLink (pw_on 8) 198 yX8_sitter ∈ pw_tb := pw_tb_in (i := 962) (by decide +kernel) rfl
theorem l_8_201 : Cond.methodLink (pw_on 8) 201 yX8_isThere ∈ pw_tb := pw_tb_in (i := 997) (by decide +kernel) rfl
theorem l_8_204 : Cond.methodLink (pw_on 8) 204 yX8_remembers ∈ pw_tb := pw_tb_in (i := 1005) (by decide +kernel) rfl
theorem l_8_207 : Cond.methodLink (pw_on 8) 207 yX8_sitting ∈ pw_tb := pw_tb_in (i := 1009) (by decide +kernel) rfl
theorem l_8_210 : Cond.methodLink (pw_on 8) 210 yX8_bits ∈ pw_tb := pw_tb_in (i := 1013) (by decide +kernel) rfl
theorem l_8_213 : Cond.methodLink (pw_on 8) 213 yX8_allRise ∈ pw_tb := pw_tb_in (i := 1020) (by decide +kernel) rfl
theorem l_8_216 : Cond.methodLink (pw_on 8) 216 yX8_isWrong ∈ pw_tb := pw_tb_in (i := 1036) (by decide +kernel) rfl
theorem l_8_219 : Cond.methodLink (pw_on 8) 219 yX8_wrongs ∈ pw_tb := pw_tb_in (i := 1032) (by decide +kernel) rfl
theorem l_8_222 : Cond.methodLink (pw_on 8) 222 yX8_beside ∈ pw_tb := pw_tb_in (i := 1040) (by decide +kernel) rfl
theorem l_8_225 : Cond.methodLink (pw_on 8) 225 yX8_areEnemies ∈ pw_tb := pw_tb_in (i := 1044) (by decide +kernel) rfl
theorem l_8_228 : Cond.methodLink (pw_on 8) 228 yX8_sitterBy ∈ pw_tb := pw_tb_in (i := 1076) (by decide +kernel) rfl
theorem l_8_240 : Cond.methodLink (pw_on 8) 240 yX8_nextThere ∈ pw_tb := pw_tb_in (i := 1068) (by decide +kernel) rfl
theorem l_8_243 : Cond.methodLink (pw_on 8) 243 yX8_finds ∈ pw_tb := pw_tb_in (i := 1072) (by decide +kernel) rfl
theorem l_8_246 : Cond.methodLink (pw_on 8) 246 yX8_maySit ∈ pw_tb := pw_tb_in (i := 1080) (by decide +kernel) rfl
theorem l_8_249 : Cond.methodLink (pw_on 8) 249 yX8_findSeatings ∈ pw_tb := pw_tb_in (i := 1064) (by decide +kernel) rfl
theorem l_8_252 : Cond.methodLink (pw_on 8) 252 yX8_isWorld ∈ pw_tb := pw_tb_in (i := 1112) (by decide +kernel) rfl
theorem l_8_255 : Cond.methodLink (pw_on 8) 255 yX8_dangers ∈ pw_tb := pw_tb_in (i := 1120) (by decide +kernel) rfl
