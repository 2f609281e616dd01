/-! words: links, constants -/
theorem acw1 : Cond.native arraycopyName ∈ GW := mGW (List.mem_of_getElem? (i := 435) (by decide +kernel)) rfl
theorem acw2 : Cond.static arraycopyName ∈ GW := mGW (List.mem_of_getElem? (i := 434) (by decide +kernel)) rfl
theorem acw3 : Cond.initialized "java/lang/System" ∈ GW := mGW (List.mem_of_getElem? (i := 85) (by decide +kernel)) rfl
theorem k_id0 : kd 0 = 8 := by decide +kernel
theorem k_id32 : kd 32 = 6 := by decide +kernel
theorem k_id100 : kd 100 = 1 := by decide +kernel
theorem k_id104 : kd 104 = 2 := by decide +kernel
theorem k_id176 : kd 176 = 9 := by decide +kernel
theorem Lc_Root_289 : Cond.constantLong "RiverTuesdays" 289 (1000000000000000) ∈ GW := mGW (List.mem_of_getElem? (i := 785) (by decide +kernel)) rfl
theorem Lc_Root_360 : Cond.constant "RiverTuesdays" 360 (2147483646) ∈ GW := mGW (List.mem_of_getElem? (i := 943) (by decide +kernel)) rfl
theorem Lc_Root_368 : Cond.constantLong "RiverTuesdays" 368 (48271) ∈ GW := mGW (List.mem_of_getElem? (i := 946) (by decide +kernel)) rfl
theorem Lc_Root_370 : Cond.constantLong "RiverTuesdays" 370 (2147483647) ∈ GW := mGW (List.mem_of_getElem? (i := 947) (by decide +kernel)) rfl
theorem Lc_Root_375 : Cond.constantLong "RiverTuesdays" 375 (256) ∈ GW := mGW (List.mem_of_getElem? (i := 793) (by decide +kernel)) rfl
theorem Lc_Root_412 : Cond.constantLong "RiverTuesdays" 412 (17) ∈ GW := mGW (List.mem_of_getElem? (i := 1017) (by decide +kernel)) rfl
theorem Lc_Root_414 : Cond.constantLong "RiverTuesdays" 414 (31) ∈ GW := mGW (List.mem_of_getElem? (i := 1018) (by decide +kernel)) rfl
theorem Lc_Root_431 : Cond.constantLong "RiverTuesdays" 431 (100000) ∈ GW := mGW (List.mem_of_getElem? (i := 792) (by decide +kernel)) rfl
theorem Lc_Root_433 : Cond.constantLong "RiverTuesdays" 433 (255) ∈ GW := mGW (List.mem_of_getElem? (i := 800) (by decide +kernel)) rfl
theorem Lc_Bed_43 : Cond.constant "RiverTuesdays$Bed" 43 (1000000000) ∈ GW := mGW (List.mem_of_getElem? (i := 569) (by decide +kernel)) rfl
theorem Lc_Jobs_40 : Cond.constant "RiverTuesdays$Jobs" 40 (1000000000) ∈ GW := mGW (List.mem_of_getElem? (i := 899) (by decide +kernel)) rfl
theorem Lc_Row_41 : Cond.constantLong "RiverTuesdays$Row" 41 (31) ∈ GW := mGW (List.mem_of_getElem? (i := 1030) (by decide +kernel)) rfl
theorem Lc_Street_87 : Cond.constantLong "RiverTuesdays$Street" 87 (31) ∈ GW := mGW (List.mem_of_getElem? (i := 1024) (by decide +kernel)) rfl
theorem Lc_Text_25 : Cond.constantLong "RiverTuesdays$Text" 25 (31) ∈ GW := mGW (List.mem_of_getElem? (i := 1035) (by decide +kernel)) rfl
theorem Lc_Model_328 : Cond.constant "RiverTuesdaysModel" 328 (99999) ∈ GW := mGW (List.mem_of_getElem? (i := 1546) (by decide +kernel)) rfl
theorem Lc_Model_332 : Cond.constant "RiverTuesdaysModel" 332 (2147483646) ∈ GW := mGW (List.mem_of_getElem? (i := 1567) (by decide +kernel)) rfl
theorem Lc_Model_333 : Cond.constantLong "RiverTuesdaysModel" 333 (48271) ∈ GW := mGW (List.mem_of_getElem? (i := 1568) (by decide +kernel)) rfl
theorem Lc_Model_335 : Cond.constantLong "RiverTuesdaysModel" 335 (2147483647) ∈ GW := mGW (List.mem_of_getElem? (i := 1569) (by decide +kernel)) rfl
theorem Lc_Model_337 : Cond.constantLong "RiverTuesdaysModel" 337 (256) ∈ GW := mGW (List.mem_of_getElem? (i := 1570) (by decide +kernel)) rfl
theorem Lc_Model_349 : Cond.constantLong "RiverTuesdaysModel" 349 (31) ∈ GW := mGW (List.mem_of_getElem? (i := 1604) (by decide +kernel)) rfl
theorem Lc_Model_359 : Cond.constantLong "RiverTuesdaysModel" 359 (-1) ∈ GW := mGW (List.mem_of_getElem? (i := 1609) (by decide +kernel)) rfl
theorem Lc_Model_361 : Cond.constantLong "RiverTuesdaysModel" 361 (17) ∈ GW := mGW (List.mem_of_getElem? (i := 1599) (by decide +kernel)) rfl
theorem Lc_Integer_265 : Cond.constant "java/lang/Integer" 265 (1431655765) ∈ GW := mGW (List.mem_of_getElem? (i := 688) (by decide +kernel)) rfl
theorem Lc_Integer_266 : Cond.constant "java/lang/Integer" 266 (858993459) ∈ GW := mGW (List.mem_of_getElem? (i := 689) (by decide +kernel)) rfl
theorem Lc_Integer_267 : Cond.constant "java/lang/Integer" 267 (252645135) ∈ GW := mGW (List.mem_of_getElem? (i := 690) (by decide +kernel)) rfl
theorem Lf_Root_11 : Cond.fieldLink "RiverTuesdays" 11 "RiverTuesdays" "rows" "[LRiverTuesdays$Row;" ∈ GW := mGW (List.mem_of_getElem? (i := 333) (by decide +kernel)) rfl
theorem Lf_Root_17 : Cond.fieldLink "RiverTuesdays" 17 "RiverTuesdays" "texts" "[LRiverTuesdays$Text;" ∈ GW := mGW (List.mem_of_getElem? (i := 334) (by decide +kernel)) rfl
theorem Lf_Root_24 : Cond.fieldLink "RiverTuesdays" 24 "RiverTuesdays" "present" "LRiverTuesdays$Street;" ∈ GW := mGW (List.mem_of_getElem? (i := 335) (by decide +kernel)) rfl
theorem Lf_Root_28 : Cond.fieldLink "RiverTuesdays" 28 "RiverTuesdays" "kept" "[LRiverTuesdays$Street;" ∈ GW := mGW (List.mem_of_getElem? (i := 336) (by decide +kernel)) rfl
theorem Lf_Root_32 : Cond.fieldLink "RiverTuesdays" 32 "RiverTuesdays" "isKept" "[Z" ∈ GW := mGW (List.mem_of_getElem? (i := 337) (by decide +kernel)) rfl
theorem Lf_Root_39 : Cond.fieldLink "RiverTuesdays" 39 "RiverTuesdays" "trialBed" "LRiverTuesdays$Bed;" ∈ GW := mGW (List.mem_of_getElem? (i := 338) (by decide +kernel)) rfl
theorem Lf_Root_46 : Cond.fieldLink "RiverTuesdays" 46 "RiverTuesdays" "trialWaters" "LRiverTuesdays$Waters;" ∈ GW := mGW (List.mem_of_getElem? (i := 339) (by decide +kernel)) rfl
theorem Lf_Root_53 : Cond.fieldLink "RiverTuesdays" 53 "RiverTuesdays" "today" "LRiverTuesdays$Tuesday;" ∈ GW := mGW (List.mem_of_getElem? (i := 340) (by decide +kernel)) rfl
theorem Lf_Root_60 : Cond.fieldLink "RiverTuesdays" 60 "RiverTuesdays" "fits" "LRiverTuesdays$Fits;" ∈ GW := mGW (List.mem_of_getElem? (i := 341) (by decide +kernel)) rfl
theorem Lf_Root_67 : Cond.fieldLink "RiverTuesdays" 67 "RiverTuesdays" "jobs" "LRiverTuesdays$Jobs;" ∈ GW := mGW (List.mem_of_getElem? (i := 342) (by decide +kernel)) rfl
theorem Lf_Root_71 : Cond.fieldLink "RiverTuesdays" 71 "RiverTuesdays" "perHouse" "[I" ∈ GW := mGW (List.mem_of_getElem? (i := 343) (by decide +kernel)) rfl
theorem Lf_Root_75 : Cond.fieldLink "RiverTuesdays" 75 "RiverTuesdays" "timesFound" "[I" ∈ GW := mGW (List.mem_of_getElem? (i := 344) (by decide +kernel)) rfl
theorem Lf_Root_96 : Cond.fieldLink "RiverTuesdays" 96 "RiverTuesdays$Row" "places" "[I" ∈ GW := mGW (List.mem_of_getElem? (i := 307) (by decide +kernel)) rfl
theorem Lf_Root_105 : Cond.fieldLink "RiverTuesdays" 105 "RiverTuesdays$Row" "size" "I" ∈ GW := mGW (List.mem_of_getElem? (i := 310) (by decide +kernel)) rfl
theorem Lf_Root_134 : Cond.fieldLink "RiverTuesdays" 134 "RiverTuesdays$Text" "size" "I" ∈ GW := mGW (List.mem_of_getElem? (i := 326) (by decide +kernel)) rfl
theorem Lf_Root_135 : Cond.fieldLink "RiverTuesdays" 135 "RiverTuesdays$Text" "signs" "[B" ∈ GW := mGW (List.mem_of_getElem? (i := 323) (by decide +kernel)) rfl
theorem Lf_Root_146 : Cond.fieldLink "RiverTuesdays" 146 "RiverTuesdays$Street" "bed" "LRiverTuesdays$Bed;" ∈ GW := mGW (List.mem_of_getElem? (i := 199) (by decide +kernel)) rfl
theorem Lf_Root_149 : Cond.fieldLink "RiverTuesdays" 149 "RiverTuesdays$Bed" "houses" "I" ∈ GW := mGW (List.mem_of_getElem? (i := 133) (by decide +kernel)) rfl
theorem Lf_Root_165 : Cond.fieldLink "RiverTuesdays" 165 "RiverTuesdays$Bed" "cellar" "[I" ∈ GW := mGW (List.mem_of_getElem? (i := 125) (by decide +kernel)) rfl
theorem Lf_Root_168 : Cond.fieldLink "RiverTuesdays" 168 "RiverTuesdays$Street" "now" "LRiverTuesdays$Waters;" ∈ GW := mGW (List.mem_of_getElem? (i := 201) (by decide +kernel)) rfl
theorem Lf_Root_171 : Cond.fieldLink "RiverTuesdays" 171 "RiverTuesdays$Waters" "below" "[I" ∈ GW := mGW (List.mem_of_getElem? (i := 170) (by decide +kernel)) rfl
theorem Lf_Root_178 : Cond.fieldLink "RiverTuesdays" 178 "RiverTuesdays$Bed" "shutBit" "[I" ∈ GW := mGW (List.mem_of_getElem? (i := 128) (by decide +kernel)) rfl
theorem Lf_Root_187 : Cond.fieldLink "RiverTuesdays" 187 "RiverTuesdays$Bed" "height" "[I" ∈ GW := mGW (List.mem_of_getElem? (i := 121) (by decide +kernel)) rfl
theorem Lf_Root_193 : Cond.fieldLink "RiverTuesdays" 193 "RiverTuesdays$Bed" "inflow" "I" ∈ GW := mGW (List.mem_of_getElem? (i := 137) (by decide +kernel)) rfl
theorem Lf_Root_202 : Cond.fieldLink "RiverTuesdays" 202 "RiverTuesdays$Waters" "out" "I" ∈ GW := mGW (List.mem_of_getElem? (i := 182) (by decide +kernel)) rfl
theorem Lf_Root_212 : Cond.fieldLink "RiverTuesdays" 212 "RiverTuesdays$Street" "hours" "I" ∈ GW := mGW (List.mem_of_getElem? (i := 205) (by decide +kernel)) rfl
theorem Lf_Root_218 : Cond.fieldLink "RiverTuesdays" 218 "RiverTuesdays$Waters" "in" "I" ∈ GW := mGW (List.mem_of_getElem? (i := 178) (by decide +kernel)) rfl
theorem Lf_Root_237 : Cond.fieldLink "RiverTuesdays" 237 "RiverTuesdays$Tuesday" "wetBits" "[I" ∈ GW := mGW (List.mem_of_getElem? (i := 237) (by decide +kernel)) rfl
theorem Lf_Root_268 : Cond.fieldLink "RiverTuesdays" 268 "RiverTuesdays$Tuesday" "markAt" "[[I" ∈ GW := mGW (List.mem_of_getElem? (i := 239) (by decide +kernel)) rfl
theorem Lf_Root_281 : Cond.fieldLink "RiverTuesdays" 281 "RiverTuesdays$Tuesday" "behind" "[LRiverTuesdays$Waters;" ∈ GW := mGW (List.mem_of_getElem? (i := 234) (by decide +kernel)) rfl
theorem Lf_Root_322 : Cond.fieldLink "RiverTuesdays" 322 "RiverTuesdays$Fits" "size" "I" ∈ GW := mGW (List.mem_of_getElem? (i := 266) (by decide +kernel)) rfl
theorem Lf_Root_347 : Cond.fieldLink "RiverTuesdays" 347 "RiverTuesdays$Jobs" "bestOrder" "[I" ∈ GW := mGW (List.mem_of_getElem? (i := 286) (by decide +kernel)) rfl
theorem Lf_Root_350 : Cond.fieldLink "RiverTuesdays" 350 "RiverTuesdays$Jobs" "size" "I" ∈ GW := mGW (List.mem_of_getElem? (i := 288) (by decide +kernel)) rfl
theorem Lf_Root_385 : Cond.fieldLink "RiverTuesdays" 385 "RiverTuesdays" "told" "I" ∈ GW := mGW (List.mem_of_getElem? (i := 346) (by decide +kernel)) rfl
theorem Lf_Root_409 : Cond.fieldLink "RiverTuesdays" 409 "RiverTuesdays" "latestFound" "I" ∈ GW := mGW (List.mem_of_getElem? (i := 345) (by decide +kernel)) rfl
theorem Lf_Root_428 : Cond.fieldLink "RiverTuesdays" 428 "RiverTuesdays$Waters" "ran" "[I" ∈ GW := mGW (List.mem_of_getElem? (i := 174) (by decide +kernel)) rfl
theorem Lf_Bed_9 : Cond.fieldLink "RiverTuesdays$Bed" 9 "RiverTuesdays$Bed" "kinds" "[I" ∈ GW := mGW (List.mem_of_getElem? (i := 112) (by decide +kernel)) rfl
theorem Lf_Bed_15 : Cond.fieldLink "RiverTuesdays$Bed" 15 "RiverTuesdays$Bed" "ground" "[I" ∈ GW := mGW (List.mem_of_getElem? (i := 115) (by decide +kernel)) rfl
theorem Lf_Bed_18 : Cond.fieldLink "RiverTuesdays$Bed" 18 "RiverTuesdays$Bed" "height" "[I" ∈ GW := mGW (List.mem_of_getElem? (i := 118) (by decide +kernel)) rfl
theorem Lf_Bed_21 : Cond.fieldLink "RiverTuesdays$Bed" 21 "RiverTuesdays$Bed" "cellar" "[I" ∈ GW := mGW (List.mem_of_getElem? (i := 122) (by decide +kernel)) rfl
theorem Lf_Bed_24 : Cond.fieldLink "RiverTuesdays$Bed" 24 "RiverTuesdays$Bed" "shutBit" "[I" ∈ GW := mGW (List.mem_of_getElem? (i := 126) (by decide +kernel)) rfl
theorem Lf_Bed_33 : Cond.fieldLink "RiverTuesdays$Bed" 33 "RiverTuesdays$Bed" "houses" "I" ∈ GW := mGW (List.mem_of_getElem? (i := 129) (by decide +kernel)) rfl
theorem Lf_Bed_37 : Cond.fieldLink "RiverTuesdays$Bed" 37 "RiverTuesdays$Bed" "inflow" "I" ∈ GW := mGW (List.mem_of_getElem? (i := 134) (by decide +kernel)) rfl
theorem Lf_Bed_40 : Cond.fieldLink "RiverTuesdays$Bed" 40 "RiverTuesdays$Bed" "sea" "I" ∈ GW := mGW (List.mem_of_getElem? (i := 138) (by decide +kernel)) rfl
theorem Lf_Bed_60 : Cond.fieldLink "RiverTuesdays$Bed" 60 "RiverTuesdays$Text" "size" "I" ∈ GW := mGW (List.mem_of_getElem? (i := 325) (by decide +kernel)) rfl
theorem Lf_Bed_63 : Cond.fieldLink "RiverTuesdays$Bed" 63 "RiverTuesdays$Text" "signs" "[B" ∈ GW := mGW (List.mem_of_getElem? (i := 322) (by decide +kernel)) rfl
theorem Lf_Fits_9 : Cond.fieldLink "RiverTuesdays$Fits" 9 "RiverTuesdays$Fits" "plans" "[I" ∈ GW := mGW (List.mem_of_getElem? (i := 262) (by decide +kernel)) rfl
theorem Lf_Fits_15 : Cond.fieldLink "RiverTuesdays$Fits" 15 "RiverTuesdays$Fits" "markOf" "[I" ∈ GW := mGW (List.mem_of_getElem? (i := 263) (by decide +kernel)) rfl
theorem Lf_Fits_18 : Cond.fieldLink "RiverTuesdays$Fits" 18 "RiverTuesdays$Fits" "tally" "[I" ∈ GW := mGW (List.mem_of_getElem? (i := 264) (by decide +kernel)) rfl
theorem Lf_Fits_21 : Cond.fieldLink "RiverTuesdays$Fits" 21 "RiverTuesdays$Fits" "size" "I" ∈ GW := mGW (List.mem_of_getElem? (i := 265) (by decide +kernel)) rfl
theorem Lf_Jobs_9 : Cond.fieldLink "RiverTuesdays$Jobs" 9 "RiverTuesdays$Jobs" "takes" "[I" ∈ GW := mGW (List.mem_of_getElem? (i := 282) (by decide +kernel)) rfl
theorem Lf_Jobs_15 : Cond.fieldLink "RiverTuesdays$Jobs" 15 "RiverTuesdays$Jobs" "due" "[I" ∈ GW := mGW (List.mem_of_getElem? (i := 283) (by decide +kernel)) rfl
theorem Lf_Jobs_18 : Cond.fieldLink "RiverTuesdays$Jobs" 18 "RiverTuesdays$Jobs" "order" "[I" ∈ GW := mGW (List.mem_of_getElem? (i := 284) (by decide +kernel)) rfl
theorem Lf_Jobs_21 : Cond.fieldLink "RiverTuesdays$Jobs" 21 "RiverTuesdays$Jobs" "bestOrder" "[I" ∈ GW := mGW (List.mem_of_getElem? (i := 285) (by decide +kernel)) rfl
theorem Lf_Jobs_24 : Cond.fieldLink "RiverTuesdays$Jobs" 24 "RiverTuesdays$Row" "size" "I" ∈ GW := mGW (List.mem_of_getElem? (i := 309) (by decide +kernel)) rfl
theorem Lf_Jobs_36 : Cond.fieldLink "RiverTuesdays$Jobs" 36 "RiverTuesdays$Jobs" "size" "I" ∈ GW := mGW (List.mem_of_getElem? (i := 287) (by decide +kernel)) rfl
theorem Lf_Jobs_37 : Cond.fieldLink "RiverTuesdays$Jobs" 37 "RiverTuesdays$Row" "places" "[I" ∈ GW := mGW (List.mem_of_getElem? (i := 306) (by decide +kernel)) rfl
theorem Lf_Row_9 : Cond.fieldLink "RiverTuesdays$Row" 9 "RiverTuesdays$Row" "places" "[I" ∈ GW := mGW (List.mem_of_getElem? (i := 305) (by decide +kernel)) rfl
theorem Lf_Row_15 : Cond.fieldLink "RiverTuesdays$Row" 15 "RiverTuesdays$Row" "size" "I" ∈ GW := mGW (List.mem_of_getElem? (i := 308) (by decide +kernel)) rfl
theorem Lf_Street_12 : Cond.fieldLink "RiverTuesdays$Street" 12 "RiverTuesdays$Street" "bed" "LRiverTuesdays$Bed;" ∈ GW := mGW (List.mem_of_getElem? (i := 198) (by decide +kernel)) rfl
theorem Lf_Street_21 : Cond.fieldLink "RiverTuesdays$Street" 21 "RiverTuesdays$Street" "now" "LRiverTuesdays$Waters;" ∈ GW := mGW (List.mem_of_getElem? (i := 200) (by decide +kernel)) rfl
theorem Lf_Street_25 : Cond.fieldLink "RiverTuesdays$Street" 25 "RiverTuesdays$Street" "past" "[I" ∈ GW := mGW (List.mem_of_getElem? (i := 202) (by decide +kernel)) rfl
theorem Lf_Street_29 : Cond.fieldLink "RiverTuesdays$Street" 29 "RiverTuesdays$Street" "openBit" "[I" ∈ GW := mGW (List.mem_of_getElem? (i := 203) (by decide +kernel)) rfl
theorem Lf_Street_39 : Cond.fieldLink "RiverTuesdays$Street" 39 "RiverTuesdays$Street" "hours" "I" ∈ GW := mGW (List.mem_of_getElem? (i := 204) (by decide +kernel)) rfl
theorem Lf_Street_63 : Cond.fieldLink "RiverTuesdays$Street" 63 "RiverTuesdays$Bed" "kinds" "[I" ∈ GW := mGW (List.mem_of_getElem? (i := 113) (by decide +kernel)) rfl
theorem Lf_Street_66 : Cond.fieldLink "RiverTuesdays$Street" 66 "RiverTuesdays$Bed" "ground" "[I" ∈ GW := mGW (List.mem_of_getElem? (i := 116) (by decide +kernel)) rfl
theorem Lf_Street_69 : Cond.fieldLink "RiverTuesdays$Street" 69 "RiverTuesdays$Bed" "height" "[I" ∈ GW := mGW (List.mem_of_getElem? (i := 119) (by decide +kernel)) rfl
theorem Lf_Street_72 : Cond.fieldLink "RiverTuesdays$Street" 72 "RiverTuesdays$Bed" "cellar" "[I" ∈ GW := mGW (List.mem_of_getElem? (i := 123) (by decide +kernel)) rfl
theorem Lf_Street_75 : Cond.fieldLink "RiverTuesdays$Street" 75 "RiverTuesdays$Waters" "ahead" "[I" ∈ GW := mGW (List.mem_of_getElem? (i := 167) (by decide +kernel)) rfl
theorem Lf_Street_78 : Cond.fieldLink "RiverTuesdays$Street" 78 "RiverTuesdays$Waters" "below" "[I" ∈ GW := mGW (List.mem_of_getElem? (i := 169) (by decide +kernel)) rfl
theorem Lf_Street_81 : Cond.fieldLink "RiverTuesdays$Street" 81 "RiverTuesdays$Waters" "flour" "[I" ∈ GW := mGW (List.mem_of_getElem? (i := 172) (by decide +kernel)) rfl
theorem Lf_Street_84 : Cond.fieldLink "RiverTuesdays$Street" 84 "RiverTuesdays$Bed" "houses" "I" ∈ GW := mGW (List.mem_of_getElem? (i := 132) (by decide +kernel)) rfl
theorem Lf_Street_89 : Cond.fieldLink "RiverTuesdays$Street" 89 "RiverTuesdays$Bed" "inflow" "I" ∈ GW := mGW (List.mem_of_getElem? (i := 136) (by decide +kernel)) rfl
theorem Lf_Street_92 : Cond.fieldLink "RiverTuesdays$Street" 92 "RiverTuesdays$Bed" "sea" "I" ∈ GW := mGW (List.mem_of_getElem? (i := 140) (by decide +kernel)) rfl
theorem Lf_Street_95 : Cond.fieldLink "RiverTuesdays$Street" 95 "RiverTuesdays$Waters" "in" "I" ∈ GW := mGW (List.mem_of_getElem? (i := 177) (by decide +kernel)) rfl
theorem Lf_Street_98 : Cond.fieldLink "RiverTuesdays$Street" 98 "RiverTuesdays$Waters" "out" "I" ∈ GW := mGW (List.mem_of_getElem? (i := 181) (by decide +kernel)) rfl
theorem Lf_Street_105 : Cond.fieldLink "RiverTuesdays$Street" 105 "RiverTuesdays$Bed" "shutBit" "[I" ∈ GW := mGW (List.mem_of_getElem? (i := 127) (by decide +kernel)) rfl
theorem Lf_Text_9 : Cond.fieldLink "RiverTuesdays$Text" 9 "RiverTuesdays$Text" "signs" "[B" ∈ GW := mGW (List.mem_of_getElem? (i := 321) (by decide +kernel)) rfl
theorem Lf_Text_15 : Cond.fieldLink "RiverTuesdays$Text" 15 "RiverTuesdays$Text" "size" "I" ∈ GW := mGW (List.mem_of_getElem? (i := 324) (by decide +kernel)) rfl
theorem Lf_Tuesday_11 : Cond.fieldLink "RiverTuesdays$Tuesday" 11 "RiverTuesdays$Tuesday" "behind" "[LRiverTuesdays$Waters;" ∈ GW := mGW (List.mem_of_getElem? (i := 233) (by decide +kernel)) rfl
theorem Lf_Tuesday_17 : Cond.fieldLink "RiverTuesdays$Tuesday" 17 "RiverTuesdays$Tuesday" "harmSoFar" "[I" ∈ GW := mGW (List.mem_of_getElem? (i := 235) (by decide +kernel)) rfl
theorem Lf_Tuesday_21 : Cond.fieldLink "RiverTuesdays$Tuesday" 21 "RiverTuesdays$Tuesday" "wetBits" "[I" ∈ GW := mGW (List.mem_of_getElem? (i := 236) (by decide +kernel)) rfl
theorem Lf_Tuesday_26 : Cond.fieldLink "RiverTuesdays$Tuesday" 26 "RiverTuesdays$Tuesday" "markAt" "[[I" ∈ GW := mGW (List.mem_of_getElem? (i := 238) (by decide +kernel)) rfl
theorem Lf_Tuesday_34 : Cond.fieldLink "RiverTuesdays$Tuesday" 34 "RiverTuesdays$Tuesday" "isLed" "Z" ∈ GW := mGW (List.mem_of_getElem? (i := 241) (by decide +kernel)) rfl
theorem Lf_Tuesday_46 : Cond.fieldLink "RiverTuesdays$Tuesday" 46 "RiverTuesdays$Tuesday" "latestPlan" "I" ∈ GW := mGW (List.mem_of_getElem? (i := 240) (by decide +kernel)) rfl
theorem Lf_Tuesday_63 : Cond.fieldLink "RiverTuesdays$Tuesday" 63 "RiverTuesdays$Bed" "houses" "I" ∈ GW := mGW (List.mem_of_getElem? (i := 130) (by decide +kernel)) rfl
theorem Lf_Tuesday_71 : Cond.fieldLink "RiverTuesdays$Tuesday" 71 "RiverTuesdays$Waters" "ahead" "[I" ∈ GW := mGW (List.mem_of_getElem? (i := 166) (by decide +kernel)) rfl
theorem Lf_Tuesday_84 : Cond.fieldLink "RiverTuesdays$Tuesday" 84 "RiverTuesdays$Waters" "out" "I" ∈ GW := mGW (List.mem_of_getElem? (i := 180) (by decide +kernel)) rfl
theorem Lf_Waters_9 : Cond.fieldLink "RiverTuesdays$Waters" 9 "RiverTuesdays$Waters" "ahead" "[I" ∈ GW := mGW (List.mem_of_getElem? (i := 165) (by decide +kernel)) rfl
theorem Lf_Waters_15 : Cond.fieldLink "RiverTuesdays$Waters" 15 "RiverTuesdays$Waters" "below" "[I" ∈ GW := mGW (List.mem_of_getElem? (i := 168) (by decide +kernel)) rfl
theorem Lf_Waters_18 : Cond.fieldLink "RiverTuesdays$Waters" 18 "RiverTuesdays$Waters" "flour" "[I" ∈ GW := mGW (List.mem_of_getElem? (i := 171) (by decide +kernel)) rfl
theorem Lf_Waters_21 : Cond.fieldLink "RiverTuesdays$Waters" 21 "RiverTuesdays$Waters" "ran" "[I" ∈ GW := mGW (List.mem_of_getElem? (i := 173) (by decide +kernel)) rfl
theorem Lf_Waters_24 : Cond.fieldLink "RiverTuesdays$Waters" 24 "RiverTuesdays$Waters" "sank" "[I" ∈ GW := mGW (List.mem_of_getElem? (i := 175) (by decide +kernel)) rfl
theorem Lf_Waters_33 : Cond.fieldLink "RiverTuesdays$Waters" 33 "RiverTuesdays$Waters" "in" "I" ∈ GW := mGW (List.mem_of_getElem? (i := 176) (by decide +kernel)) rfl
theorem Lf_Waters_37 : Cond.fieldLink "RiverTuesdays$Waters" 37 "RiverTuesdays$Waters" "out" "I" ∈ GW := mGW (List.mem_of_getElem? (i := 179) (by decide +kernel)) rfl
theorem Lf_Waters_46 : Cond.fieldLink "RiverTuesdays$Waters" 46 "RiverTuesdays$Bed" "inflow" "I" ∈ GW := mGW (List.mem_of_getElem? (i := 135) (by decide +kernel)) rfl
theorem Lf_Waters_51 : Cond.fieldLink "RiverTuesdays$Waters" 51 "RiverTuesdays$Bed" "houses" "I" ∈ GW := mGW (List.mem_of_getElem? (i := 131) (by decide +kernel)) rfl
theorem Lf_Waters_81 : Cond.fieldLink "RiverTuesdays$Waters" 81 "RiverTuesdays$Bed" "ground" "[I" ∈ GW := mGW (List.mem_of_getElem? (i := 117) (by decide +kernel)) rfl
theorem Lf_Waters_84 : Cond.fieldLink "RiverTuesdays$Waters" 84 "RiverTuesdays$Bed" "sea" "I" ∈ GW := mGW (List.mem_of_getElem? (i := 139) (by decide +kernel)) rfl
theorem Lf_Waters_87 : Cond.fieldLink "RiverTuesdays$Waters" 87 "RiverTuesdays$Bed" "height" "[I" ∈ GW := mGW (List.mem_of_getElem? (i := 120) (by decide +kernel)) rfl
theorem Lf_Waters_90 : Cond.fieldLink "RiverTuesdays$Waters" 90 "RiverTuesdays$Bed" "cellar" "[I" ∈ GW := mGW (List.mem_of_getElem? (i := 124) (by decide +kernel)) rfl
theorem Lf_Waters_93 : Cond.fieldLink "RiverTuesdays$Waters" 93 "RiverTuesdays$Bed" "kinds" "[I" ∈ GW := mGW (List.mem_of_getElem? (i := 114) (by decide +kernel)) rfl
theorem Lf_Model_7 : Cond.fieldLink "RiverTuesdaysModel" 7 "RiverTuesdaysModel" "came" "[I" ∈ GW := mGW (List.mem_of_getElem? (i := 1043) (by decide +kernel)) rfl
theorem Lf_Model_13 : Cond.fieldLink "RiverTuesdaysModel" 13 "RiverTuesdaysModel" "sizes" "[I" ∈ GW := mGW (List.mem_of_getElem? (i := 1045) (by decide +kernel)) rfl
theorem Lf_Model_16 : Cond.fieldLink "RiverTuesdaysModel" 16 "RiverTuesdaysModel" "rows" "[I" ∈ GW := mGW (List.mem_of_getElem? (i := 1046) (by decide +kernel)) rfl
theorem Lf_Model_19 : Cond.fieldLink "RiverTuesdaysModel" 19 "RiverTuesdaysModel" "copied" "[I" ∈ GW := mGW (List.mem_of_getElem? (i := 1047) (by decide +kernel)) rfl
theorem Lf_Model_22 : Cond.fieldLink "RiverTuesdaysModel" 22 "RiverTuesdaysModel" "textSizes" "[I" ∈ GW := mGW (List.mem_of_getElem? (i := 1048) (by decide +kernel)) rfl
theorem Lf_Model_25 : Cond.fieldLink "RiverTuesdaysModel" 25 "RiverTuesdaysModel" "bytes" "[B" ∈ GW := mGW (List.mem_of_getElem? (i := 1049) (by decide +kernel)) rfl
theorem Lf_Model_29 : Cond.fieldLink "RiverTuesdaysModel" 29 "RiverTuesdaysModel" "kinds" "[I" ∈ GW := mGW (List.mem_of_getElem? (i := 1053) (by decide +kernel)) rfl
theorem Lf_Model_32 : Cond.fieldLink "RiverTuesdaysModel" 32 "RiverTuesdaysModel" "floors" "[I" ∈ GW := mGW (List.mem_of_getElem? (i := 1054) (by decide +kernel)) rfl
theorem Lf_Model_35 : Cond.fieldLink "RiverTuesdaysModel" 35 "RiverTuesdaysModel" "sills" "[I" ∈ GW := mGW (List.mem_of_getElem? (i := 1055) (by decide +kernel)) rfl
theorem Lf_Model_38 : Cond.fieldLink "RiverTuesdaysModel" 38 "RiverTuesdaysModel" "rooms" "[I" ∈ GW := mGW (List.mem_of_getElem? (i := 1056) (by decide +kernel)) rfl
theorem Lf_Model_41 : Cond.fieldLink "RiverTuesdaysModel" 41 "RiverTuesdaysModel" "shutNow" "[I" ∈ GW := mGW (List.mem_of_getElem? (i := 1057) (by decide +kernel)) rfl
theorem Lf_Model_44 : Cond.fieldLink "RiverTuesdaysModel" 44 "RiverTuesdaysModel" "readHouses" "[I" ∈ GW := mGW (List.mem_of_getElem? (i := 1063) (by decide +kernel)) rfl
theorem Lf_Model_47 : Cond.fieldLink "RiverTuesdaysModel" 47 "RiverTuesdaysModel" "streets" "[I" ∈ GW := mGW (List.mem_of_getElem? (i := 1064) (by decide +kernel)) rfl
theorem Lf_Model_50 : Cond.fieldLink "RiverTuesdaysModel" 50 "RiverTuesdaysModel" "ran" "[I" ∈ GW := mGW (List.mem_of_getElem? (i := 1065) (by decide +kernel)) rfl
theorem Lf_Model_53 : Cond.fieldLink "RiverTuesdaysModel" 53 "RiverTuesdaysModel" "got" "[I" ∈ GW := mGW (List.mem_of_getElem? (i := 1066) (by decide +kernel)) rfl
theorem Lf_Model_56 : Cond.fieldLink "RiverTuesdaysModel" 56 "RiverTuesdaysModel" "hours" "[I" ∈ GW := mGW (List.mem_of_getElem? (i := 1069) (by decide +kernel)) rfl
theorem Lf_Model_59 : Cond.fieldLink "RiverTuesdaysModel" 59 "RiverTuesdaysModel" "keptHours" "[I" ∈ GW := mGW (List.mem_of_getElem? (i := 1070) (by decide +kernel)) rfl
theorem Lf_Model_62 : Cond.fieldLink "RiverTuesdaysModel" 62 "RiverTuesdaysModel" "keptNow" "[I" ∈ GW := mGW (List.mem_of_getElem? (i := 1071) (by decide +kernel)) rfl
theorem Lf_Model_65 : Cond.fieldLink "RiverTuesdaysModel" 65 "RiverTuesdaysModel" "keptSills" "[I" ∈ GW := mGW (List.mem_of_getElem? (i := 1072) (by decide +kernel)) rfl
theorem Lf_Model_68 : Cond.fieldLink "RiverTuesdaysModel" 68 "RiverTuesdaysModel" "keptShut" "[I" ∈ GW := mGW (List.mem_of_getElem? (i := 1073) (by decide +kernel)) rfl
theorem Lf_Model_71 : Cond.fieldLink "RiverTuesdaysModel" 71 "RiverTuesdaysModel" "keptFlow" "[I" ∈ GW := mGW (List.mem_of_getElem? (i := 1074) (by decide +kernel)) rfl
theorem Lf_Model_74 : Cond.fieldLink "RiverTuesdaysModel" 74 "RiverTuesdaysModel" "keptLog" "[I" ∈ GW := mGW (List.mem_of_getElem? (i := 1075) (by decide +kernel)) rfl
theorem Lf_Model_77 : Cond.fieldLink "RiverTuesdaysModel" 77 "RiverTuesdaysModel" "isKept" "[Z" ∈ GW := mGW (List.mem_of_getElem? (i := 1076) (by decide +kernel)) rfl
theorem Lf_Model_81 : Cond.fieldLink "RiverTuesdaysModel" 81 "RiverTuesdaysModel" "wetHour" "[I" ∈ GW := mGW (List.mem_of_getElem? (i := 1082) (by decide +kernel)) rfl
theorem Lf_Model_84 : Cond.fieldLink "RiverTuesdaysModel" 84 "RiverTuesdaysModel" "cutSets" "[I" ∈ GW := mGW (List.mem_of_getElem? (i := 1083) (by decide +kernel)) rfl
theorem Lf_Model_87 : Cond.fieldLink "RiverTuesdaysModel" 87 "RiverTuesdaysModel" "marksOf" "[I" ∈ GW := mGW (List.mem_of_getElem? (i := 1084) (by decide +kernel)) rfl
theorem Lf_Model_90 : Cond.fieldLink "RiverTuesdaysModel" 90 "RiverTuesdaysModel" "fitting" "[Z" ∈ GW := mGW (List.mem_of_getElem? (i := 1085) (by decide +kernel)) rfl
theorem Lf_Model_93 : Cond.fieldLink "RiverTuesdaysModel" 93 "RiverTuesdaysModel" "byMark" "[I" ∈ GW := mGW (List.mem_of_getElem? (i := 1090) (by decide +kernel)) rfl
theorem Lf_Model_96 : Cond.fieldLink "RiverTuesdaysModel" 96 "RiverTuesdaysModel" "raised" "[I" ∈ GW := mGW (List.mem_of_getElem? (i := 1091) (by decide +kernel)) rfl
theorem Lf_Model_99 : Cond.fieldLink "RiverTuesdaysModel" 99 "RiverTuesdaysModel" "takesOf" "[I" ∈ GW := mGW (List.mem_of_getElem? (i := 1093) (by decide +kernel)) rfl
theorem Lf_Model_102 : Cond.fieldLink "RiverTuesdaysModel" 102 "RiverTuesdaysModel" "dueOf" "[I" ∈ GW := mGW (List.mem_of_getElem? (i := 1094) (by decide +kernel)) rfl
theorem Lf_Model_105 : Cond.fieldLink "RiverTuesdaysModel" 105 "RiverTuesdaysModel" "order" "[I" ∈ GW := mGW (List.mem_of_getElem? (i := 1095) (by decide +kernel)) rfl
theorem Lf_Model_108 : Cond.fieldLink "RiverTuesdaysModel" 108 "RiverTuesdaysModel" "bestOrder" "[I" ∈ GW := mGW (List.mem_of_getElem? (i := 1096) (by decide +kernel)) rfl
theorem Lf_Model_111 : Cond.fieldLink "RiverTuesdaysModel" 111 "RiverTuesdaysModel" "wetTimes" "[I" ∈ GW := mGW (List.mem_of_getElem? (i := 1098) (by decide +kernel)) rfl
theorem Lf_Model_114 : Cond.fieldLink "RiverTuesdaysModel" 114 "RiverTuesdaysModel" "latest" "I" ∈ GW := mGW (List.mem_of_getElem? (i := 1042) (by decide +kernel)) rfl
theorem Lf_Model_122 : Cond.fieldLink "RiverTuesdaysModel" 122 "RiverTuesdaysModel" "asked" "I" ∈ GW := mGW (List.mem_of_getElem? (i := 1044) (by decide +kernel)) rfl
theorem Lf_Model_143 : Cond.fieldLink "RiverTuesdaysModel" 143 "RiverTuesdaysModel" "readAt" "I" ∈ GW := mGW (List.mem_of_getElem? (i := 1058) (by decide +kernel)) rfl
theorem Lf_Model_149 : Cond.fieldLink "RiverTuesdaysModel" 149 "RiverTuesdaysModel" "readNumber" "I" ∈ GW := mGW (List.mem_of_getElem? (i := 1059) (by decide +kernel)) rfl
theorem Lf_Model_155 : Cond.fieldLink "RiverTuesdaysModel" 155 "RiverTuesdaysModel" "readFlow" "I" ∈ GW := mGW (List.mem_of_getElem? (i := 1060) (by decide +kernel)) rfl
theorem Lf_Model_158 : Cond.fieldLink "RiverTuesdaysModel" 158 "RiverTuesdaysModel" "readSea" "I" ∈ GW := mGW (List.mem_of_getElem? (i := 1061) (by decide +kernel)) rfl
theorem Lf_Model_164 : Cond.fieldLink "RiverTuesdaysModel" 164 "RiverTuesdaysModel" "readMany" "I" ∈ GW := mGW (List.mem_of_getElem? (i := 1062) (by decide +kernel)) rfl
theorem Lf_Model_176 : Cond.fieldLink "RiverTuesdaysModel" 176 "RiverTuesdaysModel" "n" "I" ∈ GW := mGW (List.mem_of_getElem? (i := 1052) (by decide +kernel)) rfl
theorem Lf_Model_179 : Cond.fieldLink "RiverTuesdaysModel" 179 "RiverTuesdaysModel" "flowNow" "I" ∈ GW := mGW (List.mem_of_getElem? (i := 1050) (by decide +kernel)) rfl
theorem Lf_Model_182 : Cond.fieldLink "RiverTuesdaysModel" 182 "RiverTuesdaysModel" "sea" "I" ∈ GW := mGW (List.mem_of_getElem? (i := 1051) (by decide +kernel)) rfl
theorem Lf_Model_189 : Cond.fieldLink "RiverTuesdaysModel" 189 "RiverTuesdaysModel" "hourMany" "I" ∈ GW := mGW (List.mem_of_getElem? (i := 1068) (by decide +kernel)) rfl
theorem Lf_Model_204 : Cond.fieldLink "RiverTuesdaysModel" 204 "RiverTuesdaysModel" "ranOut" "I" ∈ GW := mGW (List.mem_of_getElem? (i := 1067) (by decide +kernel)) rfl
theorem Lf_Model_242 : Cond.fieldLink "RiverTuesdaysModel" 242 "RiverTuesdaysModel" "harmOf" "I" ∈ GW := mGW (List.mem_of_getElem? (i := 1077) (by decide +kernel)) rfl
theorem Lf_Model_245 : Cond.fieldLink "RiverTuesdaysModel" 245 "RiverTuesdaysModel" "wetSet" "I" ∈ GW := mGW (List.mem_of_getElem? (i := 1079) (by decide +kernel)) rfl
theorem Lf_Model_262 : Cond.fieldLink "RiverTuesdaysModel" 262 "RiverTuesdaysModel" "groundOf" "I" ∈ GW := mGW (List.mem_of_getElem? (i := 1078) (by decide +kernel)) rfl
theorem Lf_Model_265 : Cond.fieldLink "RiverTuesdaysModel" 265 "RiverTuesdaysModel" "outOf" "I" ∈ GW := mGW (List.mem_of_getElem? (i := 1080) (by decide +kernel)) rfl
theorem Lf_Model_268 : Cond.fieldLink "RiverTuesdaysModel" 268 "RiverTuesdaysModel" "standsOf" "I" ∈ GW := mGW (List.mem_of_getElem? (i := 1081) (by decide +kernel)) rfl
theorem Lf_Model_291 : Cond.fieldLink "RiverTuesdaysModel" 291 "RiverTuesdaysModel" "fitMany" "I" ∈ GW := mGW (List.mem_of_getElem? (i := 1086) (by decide +kernel)) rfl
theorem Lf_Model_294 : Cond.fieldLink "RiverTuesdaysModel" 294 "RiverTuesdaysModel" "fitFirst" "I" ∈ GW := mGW (List.mem_of_getElem? (i := 1087) (by decide +kernel)) rfl
theorem Lf_Model_297 : Cond.fieldLink "RiverTuesdaysModel" 297 "RiverTuesdaysModel" "fitAll" "I" ∈ GW := mGW (List.mem_of_getElem? (i := 1088) (by decide +kernel)) rfl
theorem Lf_Model_300 : Cond.fieldLink "RiverTuesdaysModel" 300 "RiverTuesdaysModel" "fitNone" "I" ∈ GW := mGW (List.mem_of_getElem? (i := 1089) (by decide +kernel)) rfl
theorem Lf_Model_315 : Cond.fieldLink "RiverTuesdaysModel" 315 "RiverTuesdaysModel" "jobMany" "I" ∈ GW := mGW (List.mem_of_getElem? (i := 1092) (by decide +kernel)) rfl
theorem Lf_Model_318 : Cond.fieldLink "RiverTuesdaysModel" 318 "RiverTuesdaysModel" "leastLate" "I" ∈ GW := mGW (List.mem_of_getElem? (i := 1097) (by decide +kernel)) rfl
theorem Lf_Model_351 : Cond.fieldLink "RiverTuesdaysModel" 351 "RiverTuesdaysModel" "hash" "J" ∈ GW := mGW (List.mem_of_getElem? (i := 1099) (by decide +kernel)) rfl
theorem Lm_Root_80 : Cond.methodLink "RiverTuesdays" 80 ⟨"RiverTuesdays", "isRow", "(I)Z"⟩ ∈ GW := mGW (List.mem_of_getElem? (i := 380) (by decide +kernel)) rfl
theorem Lm_Root_84 : Cond.methodLink "RiverTuesdays" 84 ⟨"RiverTuesdays", "find", "(I)I"⟩ ∈ GW := mGW (List.mem_of_getElem? (i := 386) (by decide +kernel)) rfl
theorem Lm_Root_88 : Cond.methodLink "RiverTuesdays" 88 ⟨"RiverTuesdays$Row", "begin", "(I)V"⟩ ∈ GW := mGW (List.mem_of_getElem? (i := 390) (by decide +kernel)) rfl
theorem Lm_Root_92 : Cond.methodLink "RiverTuesdays" 92 ⟨"RiverTuesdays", "refusedPlace", "(II)I"⟩ ∈ GW := mGW (List.mem_of_getElem? (i := 401) (by decide +kernel)) rfl
theorem Lm_Root_99 : Cond.methodLink "RiverTuesdays" 99 ⟨"RiverTuesdays", "tell", "(II)I"⟩ ∈ GW := mGW (List.mem_of_getElem? (i := 413) (by decide +kernel)) rfl
theorem Lm_Root_102 : Cond.methodLink "RiverTuesdays" 102 ⟨"RiverTuesdays", "refusedRow", "(I)I"⟩ ∈ GW := mGW (List.mem_of_getElem? (i := 405) (by decide +kernel)) rfl
theorem Lm_Root_109 : Cond.methodLink "RiverTuesdays" 109 ⟨"RiverTuesdays$Row", "isThere", "()Z"⟩ ∈ GW := mGW (List.mem_of_getElem? (i := 409) (by decide +kernel)) rfl
theorem Lm_Root_113 : Cond.methodLink "RiverTuesdays" 113 ⟨"RiverTuesdays$Row", "hasRun", "(II)Z"⟩ ∈ GW := mGW (List.mem_of_getElem? (i := 429) (by decide +kernel)) rfl
theorem Lm_Root_117 : Cond.methodLink "RiverTuesdays" 117 ⟨"java/lang/System", "arraycopy", "(Ljava/lang/Object;ILjava/lang/Object;II)V"⟩ ∈ GW := mGW (List.mem_of_getElem? (i := 433) (by decide +kernel)) rfl
theorem Lm_Root_123 : Cond.methodLink "RiverTuesdays" 123 ⟨"RiverTuesdays$Row", "sum", "()J"⟩ ∈ GW := mGW (List.mem_of_getElem? (i := 440) (by decide +kernel)) rfl
theorem Lm_Root_127 : Cond.methodLink "RiverTuesdays" 127 ⟨"RiverTuesdays", "isText", "(I)Z"⟩ ∈ GW := mGW (List.mem_of_getElem? (i := 448) (by decide +kernel)) rfl
theorem Lm_Root_130 : Cond.methodLink "RiverTuesdays" 130 ⟨"RiverTuesdays$Text", "begin", "(I)V"⟩ ∈ GW := mGW (List.mem_of_getElem? (i := 451) (by decide +kernel)) rfl
theorem Lm_Root_131 : Cond.methodLink "RiverTuesdays" 131 ⟨"RiverTuesdays", "refusedText", "(I)I"⟩ ∈ GW := mGW (List.mem_of_getElem? (i := 462) (by decide +kernel)) rfl
theorem Lm_Root_139 : Cond.methodLink "RiverTuesdays" 139 ⟨"RiverTuesdays$Bed", "readStreet", "(LRiverTuesdays$Text;)I"⟩ ∈ GW := mGW (List.mem_of_getElem? (i := 474) (by decide +kernel)) rfl
theorem Lm_Root_143 : Cond.methodLink "RiverTuesdays" 143 ⟨"RiverTuesdays$Street", "begin", "(LRiverTuesdays$Bed;)V"⟩ ∈ GW := mGW (List.mem_of_getElem? (i := 503) (by decide +kernel)) rfl
theorem Lm_Root_152 : Cond.methodLink "RiverTuesdays" 152 ⟨"RiverTuesdays$Bed", "hasHouse", "(I)Z"⟩ ∈ GW := mGW (List.mem_of_getElem? (i := 521) (by decide +kernel)) rfl
theorem Lm_Root_155 : Cond.methodLink "RiverTuesdays" 155 ⟨"RiverTuesdays", "isWithin", "(III)Z"⟩ ∈ GW := mGW (List.mem_of_getElem? (i := 383) (by decide +kernel)) rfl
theorem Lm_Root_159 : Cond.methodLink "RiverTuesdays" 159 ⟨"RiverTuesdays$Street", "ofHouse", "(II)I"⟩ ∈ GW := mGW (List.mem_of_getElem? (i := 525) (by decide +kernel)) rfl
theorem Lm_Root_162 : Cond.methodLink "RiverTuesdays" 162 ⟨"RiverTuesdays$Bed", "isOfKind", "(II)Z"⟩ ∈ GW := mGW (List.mem_of_getElem? (i := 533) (by decide +kernel)) rfl
theorem Lm_Root_174 : Cond.methodLink "RiverTuesdays" 174 ⟨"RiverTuesdays$Waters", "drop", "(LRiverTuesdays$Bed;I)I"⟩ ∈ GW := mGW (List.mem_of_getElem? (i := 537) (by decide +kernel)) rfl
theorem Lm_Root_181 : Cond.methodLink "RiverTuesdays" 181 ⟨"RiverTuesdays", "wouldRunOn", "(I)I"⟩ ∈ GW := mGW (List.mem_of_getElem? (i := 541) (by decide +kernel)) rfl
theorem Lm_Root_184 : Cond.methodLink "RiverTuesdays" 184 ⟨"RiverTuesdays$Bed", "grinds", "(II)I"⟩ ∈ GW := mGW (List.mem_of_getElem? (i := 578) (by decide +kernel)) rfl
theorem Lm_Root_190 : Cond.methodLink "RiverTuesdays" 190 ⟨"RiverTuesdays", "hasHouses", "()Z"⟩ ∈ GW := mGW (List.mem_of_getElem? (i := 587) (by decide +kernel)) rfl
theorem Lm_Root_196 : Cond.methodLink "RiverTuesdays" 196 ⟨"RiverTuesdays$Waters", "pumpOut", "(I)I"⟩ ∈ GW := mGW (List.mem_of_getElem? (i := 599) (by decide +kernel)) rfl
theorem Lm_Root_199 : Cond.methodLink "RiverTuesdays" 199 ⟨"RiverTuesdays$Street", "hasRoomFor", "(I)Z"⟩ ∈ GW := mGW (List.mem_of_getElem? (i := 607) (by decide +kernel)) rfl
theorem Lm_Root_205 : Cond.methodLink "RiverTuesdays" 205 ⟨"RiverTuesdays$Street", "pass", "(I)V"⟩ ∈ GW := mGW (List.mem_of_getElem? (i := 611) (by decide +kernel)) rfl
theorem Lm_Root_208 : Cond.methodLink "RiverTuesdays" 208 ⟨"RiverTuesdays$Waters", "allAhead", "()I"⟩ ∈ GW := mGW (List.mem_of_getElem? (i := 620) (by decide +kernel)) rfl
theorem Lm_Root_215 : Cond.methodLink "RiverTuesdays" 215 ⟨"RiverTuesdays$Street", "goBack", "(I)I"⟩ ∈ GW := mGW (List.mem_of_getElem? (i := 631) (by decide +kernel)) rfl
theorem Lm_Root_221 : Cond.methodLink "RiverTuesdays" 221 ⟨"RiverTuesdays$Street", "takeFrom", "(LRiverTuesdays$Street;)V"⟩ ∈ GW := mGW (List.mem_of_getElem? (i := 647) (by decide +kernel)) rfl
theorem Lm_Root_225 : Cond.methodLink "RiverTuesdays" 225 ⟨"RiverTuesdays", "refusedPlan", "(I)I"⟩ ∈ GW := mGW (List.mem_of_getElem? (i := 661) (by decide +kernel)) rfl
theorem Lm_Root_228 : Cond.methodLink "RiverTuesdays" 228 ⟨"RiverTuesdays", "leadAside", "(I)V"⟩ ∈ GW := mGW (List.mem_of_getElem? (i := 668) (by decide +kernel)) rfl
theorem Lm_Root_231 : Cond.methodLink "RiverTuesdays" 231 ⟨"RiverTuesdays$Tuesday", "grindings", "()I"⟩ ∈ GW := mGW (List.mem_of_getElem? (i := 705) (by decide +kernel)) rfl
theorem Lm_Root_234 : Cond.methodLink "RiverTuesdays" 234 ⟨"RiverTuesdays$Tuesday", "harmDone", "()I"⟩ ∈ GW := mGW (List.mem_of_getElem? (i := 713) (by decide +kernel)) rfl
theorem Lm_Root_240 : Cond.methodLink "RiverTuesdays" 240 ⟨"java/lang/Integer", "bitCount", "(I)I"⟩ ∈ GW := mGW (List.mem_of_getElem? (i := 721) (by decide +kernel)) rfl
theorem Lm_Root_245 : Cond.methodLink "RiverTuesdays" 245 ⟨"RiverTuesdays", "isPlan", "(I)Z"⟩ ∈ GW := mGW (List.mem_of_getElem? (i := 665) (by decide +kernel)) rfl
theorem Lm_Root_248 : Cond.methodLink "RiverTuesdays" 248 ⟨"RiverTuesdays", "hasBit", "(II)Z"⟩ ∈ GW := mGW (List.mem_of_getElem? (i := 726) (by decide +kernel)) rfl
theorem Lm_Root_251 : Cond.methodLink "RiverTuesdays" 251 ⟨"RiverTuesdays", "isHourOfDay", "(I)Z"⟩ ∈ GW := mGW (List.mem_of_getElem? (i := 733) (by decide +kernel)) rfl
theorem Lm_Root_254 : Cond.methodLink "RiverTuesdays" 254 ⟨"RiverTuesdays$Tuesday", "cutOffBits", "(I)I"⟩ ∈ GW := mGW (List.mem_of_getElem? (i := 736) (by decide +kernel)) rfl
theorem Lm_Root_257 : Cond.methodLink "RiverTuesdays" 257 ⟨"java/lang/Math", "min", "(II)I"⟩ ∈ GW := mGW (List.mem_of_getElem? (i := 744) (by decide +kernel)) rfl
theorem Lm_Root_262 : Cond.methodLink "RiverTuesdays" 262 ⟨"java/lang/Math", "max", "(II)I"⟩ ∈ GW := mGW (List.mem_of_getElem? (i := 745) (by decide +kernel)) rfl
theorem Lm_Root_265 : Cond.methodLink "RiverTuesdays" 265 ⟨"RiverTuesdays", "boatPairs", "(I)I"⟩ ∈ GW := mGW (List.mem_of_getElem? (i := 750) (by decide +kernel)) rfl
theorem Lm_Root_272 : Cond.methodLink "RiverTuesdays" 272 ⟨"RiverTuesdays$Row", "takeFrom", "([II)V"⟩ ∈ GW := mGW (List.mem_of_getElem? (i := 758) (by decide +kernel)) rfl
theorem Lm_Root_275 : Cond.methodLink "RiverTuesdays" 275 ⟨"RiverTuesdays$Row", "greatest", "()I"⟩ ∈ GW := mGW (List.mem_of_getElem? (i := 763) (by decide +kernel)) rfl
theorem Lm_Root_278 : Cond.methodLink "RiverTuesdays" 278 ⟨"RiverTuesdays$Tuesday", "runOut", "()I"⟩ ∈ GW := mGW (List.mem_of_getElem? (i := 772) (by decide +kernel)) rfl
theorem Lm_Root_285 : Cond.methodLink "RiverTuesdays" 285 ⟨"RiverTuesdays$Waters", "harmOfHour", "(LRiverTuesdays$Bed;)I"⟩ ∈ GW := mGW (List.mem_of_getElem? (i := 780) (by decide +kernel)) rfl
theorem Lm_Root_291 : Cond.methodLink "RiverTuesdays" 291 ⟨"RiverTuesdays$Tuesday", "begin", "(LRiverTuesdays$Waters;)V"⟩ ∈ GW := mGW (List.mem_of_getElem? (i := 672) (by decide +kernel)) rfl
theorem Lm_Root_294 : Cond.methodLink "RiverTuesdays" 294 ⟨"RiverTuesdays", "mirrored", "(I)I"⟩ ∈ GW := mGW (List.mem_of_getElem? (i := 786) (by decide +kernel)) rfl
theorem Lm_Root_297 : Cond.methodLink "RiverTuesdays" 297 ⟨"RiverTuesdays$Tuesday", "lead", "(LRiverTuesdays$Bed;I)V"⟩ ∈ GW := mGW (List.mem_of_getElem? (i := 677) (by decide +kernel)) rfl
theorem Lm_Root_301 : Cond.methodLink "RiverTuesdays" 301 ⟨"RiverTuesdays", "rank", "(III)J"⟩ ∈ GW := mGW (List.mem_of_getElem? (i := 789) (by decide +kernel)) rfl
theorem Lm_Root_305 : Cond.methodLink "RiverTuesdays" 305 ⟨"java/lang/Math", "min", "(JJ)J"⟩ ∈ GW := mGW (List.mem_of_getElem? (i := 794) (by decide +kernel)) rfl
theorem Lm_Root_308 : Cond.methodLink "RiverTuesdays" 308 ⟨"RiverTuesdays", "planOfRank", "(J)I"⟩ ∈ GW := mGW (List.mem_of_getElem? (i := 797) (by decide +kernel)) rfl
theorem Lm_Root_312 : Cond.methodLink "RiverTuesdays" 312 ⟨"RiverTuesdays", "refusedMarks", "(I)I"⟩ ∈ GW := mGW (List.mem_of_getElem? (i := 813) (by decide +kernel)) rfl
theorem Lm_Root_315 : Cond.methodLink "RiverTuesdays" 315 ⟨"RiverTuesdays", "gatherFits", "(LRiverTuesdays$Row;)V"⟩ ∈ GW := mGW (List.mem_of_getElem? (i := 817) (by decide +kernel)) rfl
theorem Lm_Root_319 : Cond.methodLink "RiverTuesdays" 319 ⟨"RiverTuesdays$Fits", "leastPlan", "()I"⟩ ∈ GW := mGW (List.mem_of_getElem? (i := 830) (by decide +kernel)) rfl
theorem Lm_Root_323 : Cond.methodLink "RiverTuesdays" 323 ⟨"RiverTuesdays$Fits", "shutInAll", "()I"⟩ ∈ GW := mGW (List.mem_of_getElem? (i := 839) (by decide +kernel)) rfl
theorem Lm_Root_326 : Cond.methodLink "RiverTuesdays" 326 ⟨"RiverTuesdays$Fits", "openInAll", "()I"⟩ ∈ GW := mGW (List.mem_of_getElem? (i := 843) (by decide +kernel)) rfl
theorem Lm_Root_329 : Cond.methodLink "RiverTuesdays" 329 ⟨"RiverTuesdays$Fits", "mostAlike", "(I)I"⟩ ∈ GW := mGW (List.mem_of_getElem? (i := 851) (by decide +kernel)) rfl
theorem Lm_Root_332 : Cond.methodLink "RiverTuesdays" 332 ⟨"RiverTuesdays", "findRaises", "(I)I"⟩ ∈ GW := mGW (List.mem_of_getElem? (i := 864) (by decide +kernel)) rfl
theorem Lm_Root_335 : Cond.methodLink "RiverTuesdays" 335 ⟨"RiverTuesdays", "harmWithRaised", "(II)I"⟩ ∈ GW := mGW (List.mem_of_getElem? (i := 873) (by decide +kernel)) rfl
theorem Lm_Root_338 : Cond.methodLink "RiverTuesdays" 338 ⟨"RiverTuesdays", "refusedJobs", "(II)I"⟩ ∈ GW := mGW (List.mem_of_getElem? (i := 881) (by decide +kernel)) rfl
theorem Lm_Root_341 : Cond.methodLink "RiverTuesdays" 341 ⟨"RiverTuesdays$Jobs", "takeFrom", "(LRiverTuesdays$Row;LRiverTuesdays$Row;)V"⟩ ∈ GW := mGW (List.mem_of_getElem? (i := 890) (by decide +kernel)) rfl
theorem Lm_Root_344 : Cond.methodLink "RiverTuesdays" 344 ⟨"RiverTuesdays$Jobs", "findBestOrder", "()I"⟩ ∈ GW := mGW (List.mem_of_getElem? (i := 895) (by decide +kernel)) rfl
theorem Lm_Root_351 : Cond.methodLink "RiverTuesdays" 351 ⟨"RiverTuesdays$Jobs", "findMostInTime", "()I"⟩ ∈ GW := mGW (List.mem_of_getElem? (i := 918) (by decide +kernel)) rfl
theorem Lm_Root_354 : Cond.methodLink "RiverTuesdays" 354 ⟨"RiverTuesdays$Row", "isAllWithin", "(II)Z"⟩ ∈ GW := mGW (List.mem_of_getElem? (i := 885) (by decide +kernel)) rfl
theorem Lm_Root_357 : Cond.methodLink "RiverTuesdays" 357 ⟨"java/lang/Math", "floorMod", "(II)I"⟩ ∈ GW := mGW (List.mem_of_getElem? (i := 936) (by decide +kernel)) rfl
theorem Lm_Root_361 : Cond.methodLink "RiverTuesdays" 361 ⟨"java/util/Arrays", "fill", "([II)V"⟩ ∈ GW := mGW (List.mem_of_getElem? (i := 944) (by decide +kernel)) rfl
theorem Lm_Root_366 : Cond.methodLink "RiverTuesdays" 366 ⟨"RiverTuesdays$Waters", "begin", "()V"⟩ ∈ GW := mGW (List.mem_of_getElem? (i := 945) (by decide +kernel)) rfl
theorem Lm_Root_372 : Cond.methodLink "RiverTuesdays" 372 ⟨"RiverTuesdays$Waters", "emptyCellars", "()V"⟩ ∈ GW := mGW (List.mem_of_getElem? (i := 948) (by decide +kernel)) rfl
theorem Lm_Root_377 : Cond.methodLink "RiverTuesdays" 377 ⟨"RiverTuesdays", "countBits", "(I)V"⟩ ∈ GW := mGW (List.mem_of_getElem? (i := 952) (by decide +kernel)) rfl
theorem Lm_Root_380 : Cond.methodLink "RiverTuesdays" 380 ⟨"RiverTuesdays$Waters", "takeFrom", "(LRiverTuesdays$Waters;)V"⟩ ∈ GW := mGW (List.mem_of_getElem? (i := 545) (by decide +kernel)) rfl
theorem Lm_Root_382 : Cond.methodLink "RiverTuesdays" 382 ⟨"RiverTuesdays", "mostOften", "()I"⟩ ∈ GW := mGW (List.mem_of_getElem? (i := 956) (by decide +kernel)) rfl
theorem Lm_Root_388 : Cond.methodLink "RiverTuesdays" 388 ⟨"RiverTuesdays$Waters", "standing", "()I"⟩ ∈ GW := mGW (List.mem_of_getElem? (i := 968) (by decide +kernel)) rfl
theorem Lm_Root_391 : Cond.methodLink "RiverTuesdays" 391 ⟨"RiverTuesdays", "standingDivisor", "()I"⟩ ∈ GW := mGW (List.mem_of_getElem? (i := 972) (by decide +kernel)) rfl
theorem Lm_Root_394 : Cond.methodLink "RiverTuesdays" 394 ⟨"RiverTuesdays$Bed", "howManyOf", "(I)I"⟩ ∈ GW := mGW (List.mem_of_getElem? (i := 984) (by decide +kernel)) rfl
theorem Lm_Root_397 : Cond.methodLink "RiverTuesdays" 397 ⟨"RiverTuesdays$Bed", "howManyShut", "()I"⟩ ∈ GW := mGW (List.mem_of_getElem? (i := 989) (by decide +kernel)) rfl
theorem Lm_Root_400 : Cond.methodLink "RiverTuesdays" 400 ⟨"RiverTuesdays", "keptStreets", "()I"⟩ ∈ GW := mGW (List.mem_of_getElem? (i := 993) (by decide +kernel)) rfl
theorem Lm_Root_403 : Cond.methodLink "RiverTuesdays" 403 ⟨"RiverTuesdays", "rowsThere", "()I"⟩ ∈ GW := mGW (List.mem_of_getElem? (i := 997) (by decide +kernel)) rfl
theorem Lm_Root_406 : Cond.methodLink "RiverTuesdays" 406 ⟨"RiverTuesdays", "textsThere", "()I"⟩ ∈ GW := mGW (List.mem_of_getElem? (i := 1001) (by decide +kernel)) rfl
theorem Lm_Root_416 : Cond.methodLink "RiverTuesdays" 416 ⟨"RiverTuesdays", "count", "(I)I"⟩ ∈ GW := mGW (List.mem_of_getElem? (i := 1019) (by decide +kernel)) rfl
theorem Lm_Root_419 : Cond.methodLink "RiverTuesdays" 419 ⟨"RiverTuesdays$Street", "foldedInto", "(J)J"⟩ ∈ GW := mGW (List.mem_of_getElem? (i := 1020) (by decide +kernel)) rfl
theorem Lm_Root_423 : Cond.methodLink "RiverTuesdays" 423 ⟨"RiverTuesdays$Row", "foldedInto", "(J)J"⟩ ∈ GW := mGW (List.mem_of_getElem? (i := 1026) (by decide +kernel)) rfl
theorem Lm_Root_424 : Cond.methodLink "RiverTuesdays" 424 ⟨"RiverTuesdays$Text", "foldedInto", "(J)J"⟩ ∈ GW := mGW (List.mem_of_getElem? (i := 1031) (by decide +kernel)) rfl
theorem Lm_Root_425 : Cond.methodLink "RiverTuesdays" 425 ⟨"RiverTuesdays$Text", "isThere", "()Z"⟩ ∈ GW := mGW (List.mem_of_getElem? (i := 466) (by decide +kernel)) rfl
theorem Lm_Root_426 : Cond.methodLink "RiverTuesdays" 426 ⟨"RiverTuesdays$Waters", "pass", "(LRiverTuesdays$Bed;I)V"⟩ ∈ GW := mGW (List.mem_of_getElem? (i := 550) (by decide +kernel)) rfl
theorem Lm_Root_435 : Cond.methodLink "RiverTuesdays" 435 ⟨"RiverTuesdays", "isLike", "(LRiverTuesdays$Row;)Z"⟩ ∈ GW := mGW (List.mem_of_getElem? (i := 821) (by decide +kernel)) rfl
theorem Lm_Root_439 : Cond.methodLink "RiverTuesdays" 439 ⟨"RiverTuesdays$Fits", "add", "(I[I)V"⟩ ∈ GW := mGW (List.mem_of_getElem? (i := 825) (by decide +kernel)) rfl
theorem Lm_Root_443 : Cond.methodLink "RiverTuesdays" 443 ⟨"RiverTuesdays$Bed", "takeFrom", "(LRiverTuesdays$Bed;)V"⟩ ∈ GW := mGW (List.mem_of_getElem? (i := 868) (by decide +kernel)) rfl
theorem Lm_Bed_27 : Cond.methodLink "RiverTuesdays$Bed" 27 ⟨"java/lang/System", "arraycopy", "(Ljava/lang/Object;ILjava/lang/Object;II)V"⟩ ∈ GW := mGW (List.mem_of_getElem? (i := 511) (by decide +kernel)) rfl
theorem Lm_Bed_44 : Cond.methodLink "RiverTuesdays$Bed" 44 ⟨"RiverTuesdays$Bed", "isOfKind", "(II)Z"⟩ ∈ GW := mGW (List.mem_of_getElem? (i := 988) (by decide +kernel)) rfl
theorem Lm_Bed_48 : Cond.methodLink "RiverTuesdays$Bed" 48 ⟨"java/util/Arrays", "fill", "([II)V"⟩ ∈ GW := mGW (List.mem_of_getElem? (i := 478) (by decide +kernel)) rfl
theorem Lm_Bed_54 : Cond.methodLink "RiverTuesdays$Bed" 54 ⟨"RiverTuesdays$Text", "behindBlanks", "(I)I"⟩ ∈ GW := mGW (List.mem_of_getElem? (i := 479) (by decide +kernel)) rfl
theorem Lm_Bed_67 : Cond.methodLink "RiverTuesdays$Bed" 67 ⟨"RiverTuesdays$Text", "figureAt", "(I)I"⟩ ∈ GW := mGW (List.mem_of_getElem? (i := 483) (by decide +kernel)) rfl
theorem Lm_Bed_70 : Cond.methodLink "RiverTuesdays$Bed" 70 ⟨"RiverTuesdays$Bed", "readHouses", "(LRiverTuesdays$Text;I)I"⟩ ∈ GW := mGW (List.mem_of_getElem? (i := 487) (by decide +kernel)) rfl
theorem Lm_Bed_74 : Cond.methodLink "RiverTuesdays$Bed" 74 ⟨"RiverTuesdays$Bed", "readHouse", "(LRiverTuesdays$Text;I)I"⟩ ∈ GW := mGW (List.mem_of_getElem? (i := 491) (by decide +kernel)) rfl
theorem Lm_Bed_77 : Cond.methodLink "RiverTuesdays$Bed" 77 ⟨"RiverTuesdays$Text", "kindAt", "(I)I"⟩ ∈ GW := mGW (List.mem_of_getElem? (i := 495) (by decide +kernel)) rfl
theorem Lm_Fits_25 : Cond.methodLink "RiverTuesdays$Fits" 25 ⟨"java/lang/System", "arraycopy", "(Ljava/lang/Object;ILjava/lang/Object;II)V"⟩ ∈ GW := mGW (List.mem_of_getElem? (i := 829) (by decide +kernel)) rfl
theorem Lm_Fits_31 : Cond.methodLink "RiverTuesdays$Fits" 31 ⟨"java/lang/Math", "min", "(II)I"⟩ ∈ GW := mGW (List.mem_of_getElem? (i := 834) (by decide +kernel)) rfl
theorem Lm_Fits_37 : Cond.methodLink "RiverTuesdays$Fits" 37 ⟨"RiverTuesdays$Fits", "tallyPlace", "(II)I"⟩ ∈ GW := mGW (List.mem_of_getElem? (i := 855) (by decide +kernel)) rfl
theorem Lm_Fits_40 : Cond.methodLink "RiverTuesdays$Fits" 40 ⟨"java/lang/Math", "max", "(II)I"⟩ ∈ GW := mGW (List.mem_of_getElem? (i := 859) (by decide +kernel)) rfl
theorem Lm_Jobs_30 : Cond.methodLink "RiverTuesdays$Jobs" 30 ⟨"java/lang/Math", "min", "(II)I"⟩ ∈ GW := mGW (List.mem_of_getElem? (i := 894) (by decide +kernel)) rfl
theorem Lm_Jobs_41 : Cond.methodLink "RiverTuesdays$Jobs" 41 ⟨"RiverTuesdays$Jobs", "lateTogether", "()I"⟩ ∈ GW := mGW (List.mem_of_getElem? (i := 900) (by decide +kernel)) rfl
theorem Lm_Jobs_45 : Cond.methodLink "RiverTuesdays$Jobs" 45 ⟨"java/lang/System", "arraycopy", "(Ljava/lang/Object;ILjava/lang/Object;II)V"⟩ ∈ GW := mGW (List.mem_of_getElem? (i := 905) (by decide +kernel)) rfl
theorem Lm_Jobs_51 : Cond.methodLink "RiverTuesdays$Jobs" 51 ⟨"RiverTuesdays$Jobs", "goToNextOrder", "()Z"⟩ ∈ GW := mGW (List.mem_of_getElem? (i := 906) (by decide +kernel)) rfl
theorem Lm_Jobs_55 : Cond.methodLink "RiverTuesdays$Jobs" 55 ⟨"java/lang/Math", "max", "(II)I"⟩ ∈ GW := mGW (List.mem_of_getElem? (i := 904) (by decide +kernel)) rfl
theorem Lm_Jobs_58 : Cond.methodLink "RiverTuesdays$Jobs" 58 ⟨"RiverTuesdays$Jobs", "swap", "(II)V"⟩ ∈ GW := mGW (List.mem_of_getElem? (i := 910) (by decide +kernel)) rfl
theorem Lm_Jobs_62 : Cond.methodLink "RiverTuesdays$Jobs" 62 ⟨"RiverTuesdays$Jobs", "orderByDue", "()V"⟩ ∈ GW := mGW (List.mem_of_getElem? (i := 922) (by decide +kernel)) rfl
theorem Lm_Jobs_65 : Cond.methodLink "RiverTuesdays$Jobs" 65 ⟨"java/lang/Integer", "bitCount", "(I)I"⟩ ∈ GW := mGW (List.mem_of_getElem? (i := 926) (by decide +kernel)) rfl
theorem Lm_Jobs_71 : Cond.methodLink "RiverTuesdays$Jobs" 71 ⟨"RiverTuesdays$Jobs", "isInTime", "(I)Z"⟩ ∈ GW := mGW (List.mem_of_getElem? (i := 927) (by decide +kernel)) rfl
theorem Lm_Row_19 : Cond.methodLink "RiverTuesdays$Row" 19 ⟨"java/util/Arrays", "fill", "([II)V"⟩ ∈ GW := mGW (List.mem_of_getElem? (i := 394) (by decide +kernel)) rfl
theorem Lm_Row_25 : Cond.methodLink "RiverTuesdays$Row" 25 ⟨"java/lang/System", "arraycopy", "(Ljava/lang/Object;ILjava/lang/Object;II)V"⟩ ∈ GW := mGW (List.mem_of_getElem? (i := 762) (by decide +kernel)) rfl
theorem Lm_Row_35 : Cond.methodLink "RiverTuesdays$Row" 35 ⟨"java/lang/Math", "max", "(II)I"⟩ ∈ GW := mGW (List.mem_of_getElem? (i := 767) (by decide +kernel)) rfl
theorem Lm_Street_32 : Cond.methodLink "RiverTuesdays$Street" 32 ⟨"RiverTuesdays$Bed", "takeFrom", "(LRiverTuesdays$Bed;)V"⟩ ∈ GW := mGW (List.mem_of_getElem? (i := 507) (by decide +kernel)) rfl
theorem Lm_Street_36 : Cond.methodLink "RiverTuesdays$Street" 36 ⟨"RiverTuesdays$Waters", "begin", "()V"⟩ ∈ GW := mGW (List.mem_of_getElem? (i := 512) (by decide +kernel)) rfl
theorem Lm_Street_43 : Cond.methodLink "RiverTuesdays$Street" 43 ⟨"RiverTuesdays$Waters", "takeFrom", "(LRiverTuesdays$Waters;)V"⟩ ∈ GW := mGW (List.mem_of_getElem? (i := 651) (by decide +kernel)) rfl
theorem Lm_Street_46 : Cond.methodLink "RiverTuesdays$Street" 46 ⟨"java/lang/System", "arraycopy", "(Ljava/lang/Object;ILjava/lang/Object;II)V"⟩ ∈ GW := mGW (List.mem_of_getElem? (i := 652) (by decide +kernel)) rfl
theorem Lm_Street_52 : Cond.methodLink "RiverTuesdays$Street" 52 ⟨"RiverTuesdays$Waters", "saveTo", "([II)V"⟩ ∈ GW := mGW (List.mem_of_getElem? (i := 615) (by decide +kernel)) rfl
theorem Lm_Street_56 : Cond.methodLink "RiverTuesdays$Street" 56 ⟨"RiverTuesdays$Waters", "pass", "(LRiverTuesdays$Bed;I)V"⟩ ∈ GW := mGW (List.mem_of_getElem? (i := 619) (by decide +kernel)) rfl
theorem Lm_Street_60 : Cond.methodLink "RiverTuesdays$Street" 60 ⟨"RiverTuesdays$Waters", "loadFrom", "([II)V"⟩ ∈ GW := mGW (List.mem_of_getElem? (i := 635) (by decide +kernel)) rfl
theorem Lm_Street_101 : Cond.methodLink "RiverTuesdays$Street" 101 ⟨"RiverTuesdays$Street", "ofHouse", "(II)I"⟩ ∈ GW := mGW (List.mem_of_getElem? (i := 1025) (by decide +kernel)) rfl
theorem Lm_Text_19 : Cond.methodLink "RiverTuesdays$Text" 19 ⟨"java/util/Arrays", "fill", "([BB)V"⟩ ∈ GW := mGW (List.mem_of_getElem? (i := 455) (by decide +kernel)) rfl
theorem Lm_Tuesday_30 : Cond.methodLink "RiverTuesdays$Tuesday" 30 ⟨"RiverTuesdays$Waters", "takeFrom", "(LRiverTuesdays$Waters;)V"⟩ ∈ GW := mGW (List.mem_of_getElem? (i := 676) (by decide +kernel)) rfl
theorem Lm_Tuesday_38 : Cond.methodLink "RiverTuesdays$Tuesday" 38 ⟨"RiverTuesdays$Tuesday", "hoursAlike", "(I)I"⟩ ∈ GW := mGW (List.mem_of_getElem? (i := 681) (by decide +kernel)) rfl
theorem Lm_Tuesday_42 : Cond.methodLink "RiverTuesdays$Tuesday" 42 ⟨"RiverTuesdays$Tuesday", "leadHour", "(LRiverTuesdays$Bed;II)V"⟩ ∈ GW := mGW (List.mem_of_getElem? (i := 691) (by decide +kernel)) rfl
theorem Lm_Tuesday_50 : Cond.methodLink "RiverTuesdays$Tuesday" 50 ⟨"java/lang/Integer", "bitCount", "(I)I"⟩ ∈ GW := mGW (List.mem_of_getElem? (i := 685) (by decide +kernel)) rfl
theorem Lm_Tuesday_55 : Cond.methodLink "RiverTuesdays$Tuesday" 55 ⟨"RiverTuesdays$Waters", "pass", "(LRiverTuesdays$Bed;I)V"⟩ ∈ GW := mGW (List.mem_of_getElem? (i := 695) (by decide +kernel)) rfl
theorem Lm_Tuesday_59 : Cond.methodLink "RiverTuesdays$Tuesday" 59 ⟨"RiverTuesdays$Waters", "harmOfHour", "(LRiverTuesdays$Bed;)I"⟩ ∈ GW := mGW (List.mem_of_getElem? (i := 696) (by decide +kernel)) rfl
theorem Lm_Tuesday_68 : Cond.methodLink "RiverTuesdays$Tuesday" 68 ⟨"RiverTuesdays$Waters", "sankBits", "(I)I"⟩ ∈ GW := mGW (List.mem_of_getElem? (i := 700) (by decide +kernel)) rfl
theorem Lm_Tuesday_74 : Cond.methodLink "RiverTuesdays$Tuesday" 74 ⟨"java/lang/Math", "max", "(II)I"⟩ ∈ GW := mGW (List.mem_of_getElem? (i := 704) (by decide +kernel)) rfl
theorem Lm_Tuesday_80 : Cond.methodLink "RiverTuesdays$Tuesday" 80 ⟨"RiverTuesdays$Waters", "allFlour", "()I"⟩ ∈ GW := mGW (List.mem_of_getElem? (i := 709) (by decide +kernel)) rfl
theorem Lm_Waters_27 : Cond.methodLink "RiverTuesdays$Waters" 27 ⟨"java/util/Arrays", "fill", "([II)V"⟩ ∈ GW := mGW (List.mem_of_getElem? (i := 516) (by decide +kernel)) rfl
theorem Lm_Waters_40 : Cond.methodLink "RiverTuesdays$Waters" 40 ⟨"java/lang/System", "arraycopy", "(Ljava/lang/Object;ILjava/lang/Object;II)V"⟩ ∈ GW := mGW (List.mem_of_getElem? (i := 549) (by decide +kernel)) rfl
theorem Lm_Waters_54 : Cond.methodLink "RiverTuesdays$Waters" 54 ⟨"RiverTuesdays$Waters", "runDown", "(LRiverTuesdays$Bed;I)V"⟩ ∈ GW := mGW (List.mem_of_getElem? (i := 554) (by decide +kernel)) rfl
theorem Lm_Waters_58 : Cond.methodLink "RiverTuesdays$Waters" 58 ⟨"RiverTuesdays$Waters", "sinkIntoCellar", "(LRiverTuesdays$Bed;I)V"⟩ ∈ GW := mGW (List.mem_of_getElem? (i := 574) (by decide +kernel)) rfl
theorem Lm_Waters_61 : Cond.methodLink "RiverTuesdays$Waters" 61 ⟨"RiverTuesdays$Waters", "drop", "(LRiverTuesdays$Bed;I)I"⟩ ∈ GW := mGW (List.mem_of_getElem? (i := 558) (by decide +kernel)) rfl
theorem Lm_Waters_65 : Cond.methodLink "RiverTuesdays$Waters" 65 ⟨"java/lang/Math", "max", "(II)I"⟩ ∈ GW := mGW (List.mem_of_getElem? (i := 559) (by decide +kernel)) rfl
theorem Lm_Waters_71 : Cond.methodLink "RiverTuesdays$Waters" 71 ⟨"java/lang/Math", "min", "(II)I"⟩ ∈ GW := mGW (List.mem_of_getElem? (i := 562) (by decide +kernel)) rfl
theorem Lm_Waters_74 : Cond.methodLink "RiverTuesdays$Waters" 74 ⟨"RiverTuesdays$Bed", "letsOn", "(I)I"⟩ ∈ GW := mGW (List.mem_of_getElem? (i := 565) (by decide +kernel)) rfl
theorem Lm_Waters_78 : Cond.methodLink "RiverTuesdays$Waters" 78 ⟨"RiverTuesdays$Bed", "grinds", "(II)I"⟩ ∈ GW := mGW (List.mem_of_getElem? (i := 570) (by decide +kernel)) rfl
theorem Lm_Waters_96 : Cond.methodLink "RiverTuesdays$Waters" 96 ⟨"RiverTuesdays$Waters", "sumOf", "([I)I"⟩ ∈ GW := mGW (List.mem_of_getElem? (i := 624) (by decide +kernel)) rfl
theorem Lm_Model_118 : Cond.methodLink "RiverTuesdaysModel" 118 ⟨"RiverTuesdaysModel", "in", "(III)Z"⟩ ∈ GW := mGW (List.mem_of_getElem? (i := 1225) (by decide +kernel)) rfl
theorem Lm_Model_125 : Cond.methodLink "RiverTuesdaysModel" 125 ⟨"RiverTuesdaysModel", "isRow", "(I)Z"⟩ ∈ GW := mGW (List.mem_of_getElem? (i := 1236) (by decide +kernel)) rfl
theorem Lm_Model_129 : Cond.methodLink "RiverTuesdaysModel" 129 ⟨"RiverTuesdaysModel", "meets", "(I)I"⟩ ∈ GW := mGW (List.mem_of_getElem? (i := 1239) (by decide +kernel)) rfl
theorem Lm_Model_133 : Cond.methodLink "RiverTuesdaysModel" 133 ⟨"RiverTuesdaysModel", "rowAt", "(II)I"⟩ ∈ GW := mGW (List.mem_of_getElem? (i := 1247) (by decide +kernel)) rfl
theorem Lm_Model_137 : Cond.methodLink "RiverTuesdaysModel" 137 ⟨"RiverTuesdaysModel", "tells", "(II)I"⟩ ∈ GW := mGW (List.mem_of_getElem? (i := 1251) (by decide +kernel)) rfl
theorem Lm_Model_140 : Cond.methodLink "RiverTuesdaysModel" 140 ⟨"RiverTuesdaysModel", "isText", "(I)Z"⟩ ∈ GW := mGW (List.mem_of_getElem? (i := 1275) (by decide +kernel)) rfl
theorem Lm_Model_146 : Cond.methodLink "RiverTuesdaysModel" 146 ⟨"RiverTuesdaysModel", "byteAt", "(II)I"⟩ ∈ GW := mGW (List.mem_of_getElem? (i := 1290) (by decide +kernel)) rfl
theorem Lm_Model_152 : Cond.methodLink "RiverTuesdaysModel" 152 ⟨"RiverTuesdaysModel", "figure", "(III)Z"⟩ ∈ GW := mGW (List.mem_of_getElem? (i := 1298) (by decide +kernel)) rfl
theorem Lm_Model_161 : Cond.methodLink "RiverTuesdaysModel" 161 ⟨"RiverTuesdaysModel", "kindOf", "(I)I"⟩ ∈ GW := mGW (List.mem_of_getElem? (i := 1306) (by decide +kernel)) rfl
theorem Lm_Model_167 : Cond.methodLink "RiverTuesdaysModel" 167 ⟨"RiverTuesdaysModel", "readsFlow", "(I)Z"⟩ ∈ GW := mGW (List.mem_of_getElem? (i := 1294) (by decide +kernel)) rfl
theorem Lm_Model_170 : Cond.methodLink "RiverTuesdaysModel" 170 ⟨"RiverTuesdaysModel", "readsHouse", "(I)Z"⟩ ∈ GW := mGW (List.mem_of_getElem? (i := 1302) (by decide +kernel)) rfl
theorem Lm_Model_173 : Cond.methodLink "RiverTuesdaysModel" 173 ⟨"RiverTuesdaysModel", "faultOf", "(I)I"⟩ ∈ GW := mGW (List.mem_of_getElem? (i := 1286) (by decide +kernel)) rfl
theorem Lm_Model_185 : Cond.methodLink "RiverTuesdaysModel" 185 ⟨"RiverTuesdaysModel", "place", "(III)V"⟩ ∈ GW := mGW (List.mem_of_getElem? (i := 1313) (by decide +kernel)) rfl
theorem Lm_Model_192 : Cond.methodLink "RiverTuesdaysModel" 192 ⟨"RiverTuesdaysModel", "v", "(II)I"⟩ ∈ GW := mGW (List.mem_of_getElem? (i := 1329) (by decide +kernel)) rfl
theorem Lm_Model_195 : Cond.methodLink "RiverTuesdaysModel" 195 ⟨"RiverTuesdaysModel", "higher", "(II)I"⟩ ∈ GW := mGW (List.mem_of_getElem? (i := 1357) (by decide +kernel)) rfl
theorem Lm_Model_198 : Cond.methodLink "RiverTuesdaysModel" 198 ⟨"RiverTuesdaysModel", "lesser", "(II)I"⟩ ∈ GW := mGW (List.mem_of_getElem? (i := 1361) (by decide +kernel)) rfl
theorem Lm_Model_201 : Cond.methodLink "RiverTuesdaysModel" 201 ⟨"RiverTuesdaysModel", "add", "(III)V"⟩ ∈ GW := mGW (List.mem_of_getElem? (i := 1349) (by decide +kernel)) rfl
theorem Lm_Model_207 : Cond.methodLink "RiverTuesdaysModel" 207 ⟨"RiverTuesdaysModel", "runOf", "(II)I"⟩ ∈ GW := mGW (List.mem_of_getElem? (i := 1353) (by decide +kernel)) rfl
theorem Lm_Model_210 : Cond.methodLink "RiverTuesdaysModel" 210 ⟨"RiverTuesdaysModel", "groundBy", "(II)I"⟩ ∈ GW := mGW (List.mem_of_getElem? (i := 1364) (by decide +kernel)) rfl
theorem Lm_Model_213 : Cond.methodLink "RiverTuesdaysModel" 213 ⟨"RiverTuesdaysModel", "greater", "(II)I"⟩ ∈ GW := mGW (List.mem_of_getElem? (i := 1367) (by decide +kernel)) rfl
theorem Lm_Model_216 : Cond.methodLink "RiverTuesdaysModel" 216 ⟨"RiverTuesdaysModel", "isHouse", "(I)Z"⟩ ∈ GW := mGW (List.mem_of_getElem? (i := 1321) (by decide +kernel)) rfl
theorem Lm_Model_219 : Cond.methodLink "RiverTuesdaysModel" 219 ⟨"RiverTuesdaysModel", "houseTells", "(II)I"⟩ ∈ GW := mGW (List.mem_of_getElem? (i := 1325) (by decide +kernel)) rfl
theorem Lm_Model_222 : Cond.methodLink "RiverTuesdaysModel" 222 ⟨"RiverTuesdaysModel", "copyStreet", "()V"⟩ ∈ GW := mGW (List.mem_of_getElem? (i := 1341) (by decide +kernel)) rfl
theorem Lm_Model_225 : Cond.methodLink "RiverTuesdaysModel" 225 ⟨"RiverTuesdaysModel", "goes", "(IZ)V"⟩ ∈ GW := mGW (List.mem_of_getElem? (i := 1345) (by decide +kernel)) rfl
theorem Lm_Model_229 : Cond.methodLink "RiverTuesdaysModel" 229 ⟨"RiverTuesdaysModel", "wouldRun", "(I)I"⟩ ∈ GW := mGW (List.mem_of_getElem? (i := 1337) (by decide +kernel)) rfl
theorem Lm_Model_232 : Cond.methodLink "RiverTuesdaysModel" 232 ⟨"RiverTuesdaysModel", "goesBy", "(Z)V"⟩ ∈ GW := mGW (List.mem_of_getElem? (i := 1390) (by decide +kernel)) rfl
theorem Lm_Model_236 : Cond.methodLink "RiverTuesdaysModel" 236 ⟨"RiverTuesdaysModel", "standing", "(I)I"⟩ ∈ GW := mGW (List.mem_of_getElem? (i := 1394) (by decide +kernel)) rfl
theorem Lm_Model_239 : Cond.methodLink "RiverTuesdaysModel" 239 ⟨"RiverTuesdaysModel", "isThere", "(I)Z"⟩ ∈ GW := mGW (List.mem_of_getElem? (i := 1414) (by decide +kernel)) rfl
theorem Lm_Model_248 : Cond.methodLink "RiverTuesdaysModel" 248 ⟨"RiverTuesdaysModel", "has", "(II)Z"⟩ ∈ GW := mGW (List.mem_of_getElem? (i := 1445) (by decide +kernel)) rfl
theorem Lm_Model_252 : Cond.methodLink "RiverTuesdaysModel" 252 ⟨"RiverTuesdaysModel", "noTuesday", "()V"⟩ ∈ GW := mGW (List.mem_of_getElem? (i := 1437) (by decide +kernel)) rfl
theorem Lm_Model_255 : Cond.methodLink "RiverTuesdaysModel" 255 ⟨"RiverTuesdaysModel", "groundAll", "(I)I"⟩ ∈ GW := mGW (List.mem_of_getElem? (i := 1441) (by decide +kernel)) rfl
theorem Lm_Model_258 : Cond.methodLink "RiverTuesdaysModel" 258 ⟨"RiverTuesdaysModel", "meetsHour", "(II)V"⟩ ∈ GW := mGW (List.mem_of_getElem? (i := 1448) (by decide +kernel)) rfl
theorem Lm_Model_271 : Cond.methodLink "RiverTuesdaysModel" 271 ⟨"RiverTuesdaysModel", "runAside", "(I)V"⟩ ∈ GW := mGW (List.mem_of_getElem? (i := 1433) (by decide +kernel)) rfl
theorem Lm_Model_275 : Cond.methodLink "RiverTuesdaysModel" 275 ⟨"RiverTuesdaysModel", "isPlan", "(I)Z"⟩ ∈ GW := mGW (List.mem_of_getElem? (i := 1426) (by decide +kernel)) rfl
theorem Lm_Model_278 : Cond.methodLink "RiverTuesdaysModel" 278 ⟨"RiverTuesdaysModel", "layTuesday", "(I)V"⟩ ∈ GW := mGW (List.mem_of_getElem? (i := 1429) (by decide +kernel)) rfl
theorem Lm_Model_281 : Cond.methodLink "RiverTuesdaysModel" 281 ⟨"RiverTuesdaysModel", "needTuesday", "(ZI)I"⟩ ∈ GW := mGW (List.mem_of_getElem? (i := 1422) (by decide +kernel)) rfl
theorem Lm_Model_285 : Cond.methodLink "RiverTuesdaysModel" 285 ⟨"RiverTuesdaysModel", "bits", "(I)I"⟩ ∈ GW := mGW (List.mem_of_getElem? (i := 1456) (by decide +kernel)) rfl
theorem Lm_Model_288 : Cond.methodLink "RiverTuesdaysModel" 288 ⟨"RiverTuesdaysModel", "isWhole", "(III)Z"⟩ ∈ GW := mGW (List.mem_of_getElem? (i := 1471) (by decide +kernel)) rfl
theorem Lm_Model_303 : Cond.methodLink "RiverTuesdaysModel" 303 ⟨"RiverTuesdaysModel", "fitsMarks", "(I)Z"⟩ ∈ GW := mGW (List.mem_of_getElem? (i := 1510) (by decide +kernel)) rfl
theorem Lm_Model_306 : Cond.methodLink "RiverTuesdaysModel" 306 ⟨"RiverTuesdaysModel", "needMarks", "(I)I"⟩ ∈ GW := mGW (List.mem_of_getElem? (i := 1506) (by decide +kernel)) rfl
theorem Lm_Model_309 : Cond.methodLink "RiverTuesdaysModel" 309 ⟨"RiverTuesdaysModel", "leftBy", "(I)I"⟩ ∈ GW := mGW (List.mem_of_getElem? (i := 1522) (by decide +kernel)) rfl
theorem Lm_Model_312 : Cond.methodLink "RiverTuesdaysModel" 312 ⟨"RiverTuesdaysModel", "raises", "(III)Z"⟩ ∈ GW := mGW (List.mem_of_getElem? (i := 1530) (by decide +kernel)) rfl
theorem Lm_Model_321 : Cond.methodLink "RiverTuesdaysModel" 321 ⟨"RiverTuesdaysModel", "layOrders", "(IIII)V"⟩ ∈ GW := mGW (List.mem_of_getElem? (i := 1547) (by decide +kernel)) rfl
theorem Lm_Model_325 : Cond.methodLink "RiverTuesdaysModel" 325 ⟨"RiverTuesdaysModel", "needJobs", "(II)I"⟩ ∈ GW := mGW (List.mem_of_getElem? (i := 1542) (by decide +kernel)) rfl
theorem Lm_Model_329 : Cond.methodLink "RiverTuesdaysModel" 329 ⟨"RiverTuesdaysModel", "inTime", "(I)Z"⟩ ∈ GW := mGW (List.mem_of_getElem? (i := 1555) (by decide +kernel)) rfl
theorem Lm_Model_339 : Cond.methodLink "RiverTuesdaysModel" 339 ⟨"RiverTuesdaysModel", "standsAll", "()I"⟩ ∈ GW := mGW (List.mem_of_getElem? (i := 1575) (by decide +kernel)) rfl
theorem Lm_Model_343 : Cond.methodLink "RiverTuesdaysModel" 343 ⟨"RiverTuesdaysModel", "common", "()I"⟩ ∈ GW := mGW (List.mem_of_getElem? (i := 1579) (by decide +kernel)) rfl
theorem Lm_Model_346 : Cond.methodLink "RiverTuesdaysModel" 346 ⟨"RiverTuesdaysModel", "counted", "(I)I"⟩ ∈ GW := mGW (List.mem_of_getElem? (i := 1591) (by decide +kernel)) rfl
theorem Lm_Model_355 : Cond.methodLink "RiverTuesdaysModel" 355 ⟨"RiverTuesdaysModel", "mix", "(J)V"⟩ ∈ GW := mGW (List.mem_of_getElem? (i := 1600) (by decide +kernel)) rfl
theorem Lm_Model_363 : Cond.methodLink "RiverTuesdaysModel" 363 ⟨"RiverTuesdaysModel", "mixStreet", "()V"⟩ ∈ GW := mGW (List.mem_of_getElem? (i := 1605) (by decide +kernel)) rfl
abbrev b_J_max : ByteArray := prog_13_method_65_code
abbrev y_J_max : MethodName := ⟨"java/lang/Math", "max", "(II)I"⟩
theorem ok_J_max : okS y_J_max b_J_max 2 (some .int) 2 := ⟨mGW (List.mem_of_getElem? (i := 560) (by decide +kernel)) rfl, mGW (List.mem_of_getElem? (i := 86) (by decide +kernel)) rfl, mGW (List.mem_of_getElem? (i := 561) (by decide +kernel)) rfl, ⟨by decide, by decide, by decide +kernel⟩⟩
abbrev b_J_min : ByteArray := prog_13_method_69_code
abbrev y_J_min : MethodName := ⟨"java/lang/Math", "min", "(II)I"⟩
theorem ok_J_min : okS y_J_min b_J_min 2 (some .int) 2 := ⟨mGW (List.mem_of_getElem? (i := 563) (by decide +kernel)) rfl, mGW (List.mem_of_getElem? (i := 86) (by decide +kernel)) rfl, mGW (List.mem_of_getElem? (i := 564) (by decide +kernel)) rfl, ⟨by decide, by decide, by decide +kernel⟩⟩
abbrev b_J_minL : ByteArray := prog_13_method_70_code
abbrev y_J_minL : MethodName := ⟨"java/lang/Math", "min", "(JJ)J"⟩
theorem ok_J_minL : okS y_J_minL b_J_minL 4 (some .long) 2 := ⟨mGW (List.mem_of_getElem? (i := 795) (by decide +kernel)) rfl, mGW (List.mem_of_getElem? (i := 86) (by decide +kernel)) rfl, mGW (List.mem_of_getElem? (i := 796) (by decide +kernel)) rfl, ⟨by decide, by decide, by decide +kernel⟩⟩
abbrev b_J_floorMod : ByteArray := prog_13_method_50_code
abbrev y_J_floorMod : MethodName := ⟨"java/lang/Math", "floorMod", "(II)I"⟩
theorem ok_J_floorMod : okS y_J_floorMod b_J_floorMod 3 (some .int) 2 := ⟨mGW (List.mem_of_getElem? (i := 937) (by decide +kernel)) rfl, mGW (List.mem_of_getElem? (i := 86) (by decide +kernel)) rfl, mGW (List.mem_of_getElem? (i := 938) (by decide +kernel)) rfl, ⟨by decide, by decide, by decide +kernel⟩⟩
