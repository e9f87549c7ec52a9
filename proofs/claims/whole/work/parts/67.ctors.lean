/-! CONSTRUCTORS (by program): words -/
theorem ko_ins : Cond.instanceMethod objectInit ∈ sw_big := sw_big_in (List.mem_of_getElem? (i := 78) (by decide +kernel)) (by decide +kernel)
theorem ko_cod : Cond.code objectInit ⟨#[0xb1]⟩ 1 none ∈ sw_big := sw_big_in (List.mem_of_getElem? (i := 79) (by decide +kernel)) (by decide +kernel)
theorem ka_int : Cond.arrayClass .int ∈ sw_big := sw_big_in (List.mem_of_getElem? (i := 116) (by decide +kernel)) (by decide +kernel)
theorem ka_long : Cond.arrayClass .long ∈ sw_big := sw_big_in (List.mem_of_getElem? (i := 191) (by decide +kernel)) (by decide +kernel)
theorem ka_boolean : Cond.arrayClass .boolean ∈ sw_big := sw_big_in (List.mem_of_getElem? (i := 249) (by decide +kernel)) (by decide +kernel)
theorem kt_0 : Cond.instantiable RX0 7 ∈ sw_big := sw_big_in (List.mem_of_getElem? (i := 168) (by decide +kernel)) (by decide +kernel)
theorem kt_1 : Cond.instantiable RX1 3 ∈ sw_big := sw_big_in (List.mem_of_getElem? (i := 87) (by decide +kernel)) (by decide +kernel)
theorem kt_2 : Cond.instantiable RX2 2 ∈ sw_big := sw_big_in (List.mem_of_getElem? (i := 267) (by decide +kernel)) (by decide +kernel)
theorem kt_3 : Cond.instantiable RX3 3 ∈ sw_big := sw_big_in (List.mem_of_getElem? (i := 81) (by decide +kernel)) (by decide +kernel)
theorem kt_4 : Cond.instantiable RX4 2 ∈ sw_big := sw_big_in (List.mem_of_getElem? (i := 302) (by decide +kernel)) (by decide +kernel)
theorem kt_5 : Cond.instantiable RX5 4 ∈ sw_big := sw_big_in (List.mem_of_getElem? (i := 229) (by decide +kernel)) (by decide +kernel)
theorem kt_6 : Cond.instantiable RX6 2 ∈ sw_big := sw_big_in (List.mem_of_getElem? (i := 285) (by decide +kernel)) (by decide +kernel)
theorem kt_7 : Cond.instantiable RX7 2 ∈ sw_big := sw_big_in (List.mem_of_getElem? (i := 120) (by decide +kernel)) (by decide +kernel)
theorem kt_8 : Cond.instantiable RX8 3 ∈ sw_big := sw_big_in (List.mem_of_getElem? (i := 220) (by decide +kernel)) (by decide +kernel)
theorem kt_9 : Cond.instantiable RX9 3 ∈ sw_big := sw_big_in (List.mem_of_getElem? (i := 174) (by decide +kernel)) (by decide +kernel)
theorem kt_10 : Cond.instantiable RX10 2 ∈ sw_big := sw_big_in (List.mem_of_getElem? (i := 136) (by decide +kernel)) (by decide +kernel)
theorem kt_11 : Cond.instantiable RX11 15 ∈ sw_big := sw_big_in (List.mem_of_getElem? (i := 73) (by decide +kernel)) (by decide +kernel)
theorem kt_12 : Cond.instantiable RX12 34 ∈ sw_big := sw_big_in (List.mem_of_getElem? (i := 917) (by decide +kernel)) (by decide +kernel)
theorem kI_RX0_3 : Cond.methodLink RX0 3 objectInit ∈ sw_big := sw_big_in (List.mem_of_getElem? (i := 172) (by decide +kernel)) (by decide +kernel)
theorem cp_RX0_9 : cn_pf RX0 9 0 0 := ⟨RX0, TX0, 7, cf_0, by decide, sw_big_in (List.mem_of_getElem? (i := 192) (by decide +kernel)) (by decide +kernel), rfl, rfl⟩
theorem cp_RX0_15 : cn_pf RX0 15 0 1 := ⟨RX0, TX0, 7, cf_0, by decide, sw_big_in (List.mem_of_getElem? (i := 194) (by decide +kernel)) (by decide +kernel), rfl, rfl⟩
theorem cp_RX0_18 : cn_pf RX0 18 0 2 := ⟨RX0, TX0, 7, cf_0, by decide, sw_big_in (List.mem_of_getElem? (i := 196) (by decide +kernel)) (by decide +kernel), rfl, rfl⟩
theorem cp_RX0_22 : cn_pf RX0 22 0 3 := ⟨RX0, TX0, 7, cf_0, by decide, sw_big_in (List.mem_of_getElem? (i := 198) (by decide +kernel)) (by decide +kernel), rfl, rfl⟩
theorem kC_RX0_25 : Cond.classLink RX0 25 RX9 ∈ sw_big := sw_big_in (List.mem_of_getElem? (i := 173) (by decide +kernel)) (by decide +kernel)
theorem cp_RX0_28 : cn_pf RX0 28 0 4 := ⟨RX0, TX0, 7, cf_0, by decide, sw_big_in (List.mem_of_getElem? (i := 199) (by decide +kernel)) (by decide +kernel), rfl, rfl⟩
theorem kI_RX1_3 : Cond.methodLink RX1 3 objectInit ∈ sw_big := sw_big_in (List.mem_of_getElem? (i := 91) (by decide +kernel)) (by decide +kernel)
theorem cp_RX1_9 : cn_pf RX1 9 1 0 := ⟨RX1, TX1, 3, cf_1, by decide, sw_big_in (List.mem_of_getElem? (i := 92) (by decide +kernel)) (by decide +kernel), rfl, rfl⟩
theorem cp_RX1_15 : cn_pf RX1 15 1 1 := ⟨RX1, TX1, 3, cf_1, by decide, sw_big_in (List.mem_of_getElem? (i := 98) (by decide +kernel)) (by decide +kernel), rfl, rfl⟩
theorem kI_RX2_1 : Cond.methodLink RX2 1 objectInit ∈ sw_big := sw_big_in (List.mem_of_getElem? (i := 271) (by decide +kernel)) (by decide +kernel)
theorem cp_RX2_13 : cn_pf RX2 13 2 0 := ⟨RX2, TX2, 2, cf_2, by decide, sw_big_in (List.mem_of_getElem? (i := 275) (by decide +kernel)) (by decide +kernel), rfl, rfl⟩
theorem kI_RX3_3 : Cond.methodLink RX3 3 objectInit ∈ sw_big := sw_big_in (List.mem_of_getElem? (i := 85) (by decide +kernel)) (by decide +kernel)
theorem kC_RX3_9 : Cond.classLink RX3 9 RX1 ∈ sw_big := sw_big_in (List.mem_of_getElem? (i := 86) (by decide +kernel)) (by decide +kernel)
theorem cp_RX3_12 : cn_pf RX3 12 3 0 := ⟨RX3, TX3, 3, cf_3, by decide, sw_big_in (List.mem_of_getElem? (i := 154) (by decide +kernel)) (by decide +kernel), rfl, rfl⟩
theorem kC_RX3_18 : Cond.classLink RX3 18 RX10 ∈ sw_big := sw_big_in (List.mem_of_getElem? (i := 117) (by decide +kernel)) (by decide +kernel)
theorem cp_RX3_20 : cn_pf RX3 20 3 1 := ⟨RX3, TX3, 3, cf_3, by decide, sw_big_in (List.mem_of_getElem? (i := 156) (by decide +kernel)) (by decide +kernel), rfl, rfl⟩
theorem kC_RX3_24 : Cond.classLink RX3 24 RX7 ∈ sw_big := sw_big_in (List.mem_of_getElem? (i := 119) (by decide +kernel)) (by decide +kernel)
theorem cp_RX3_27 : cn_pf RX3 27 3 2 := ⟨RX3, TX3, 3, cf_3, by decide, sw_big_in (List.mem_of_getElem? (i := 158) (by decide +kernel)) (by decide +kernel), rfl, rfl⟩
theorem kI_RX4_3 : Cond.methodLink RX4 3 objectInit ∈ sw_big := sw_big_in (List.mem_of_getElem? (i := 306) (by decide +kernel)) (by decide +kernel)
theorem kC_RX4_9 : Cond.classLink RX4 9 ("[" ++ (FieldType.array .long).toString) ∈ sw_big := sw_big_in (List.mem_of_getElem? (i := 307) (by decide +kernel)) (by decide +kernel)
theorem cp_RX4_11 : cn_pf RX4 11 4 0 := ⟨RX4, TX4, 2, cf_4, by decide, sw_big_in (List.mem_of_getElem? (i := 312) (by decide +kernel)) (by decide +kernel), rfl, rfl⟩
theorem cp_RX4_16 : cn_pf RX4 16 4 1 := ⟨RX4, TX4, 2, cf_4, by decide, sw_big_in (List.mem_of_getElem? (i := 314) (by decide +kernel)) (by decide +kernel), rfl, rfl⟩
theorem kI_RX5_3 : Cond.methodLink RX5 3 objectInit ∈ sw_big := sw_big_in (List.mem_of_getElem? (i := 233) (by decide +kernel)) (by decide +kernel)
theorem cp_RX5_9 : cn_pf RX5 9 5 0 := ⟨RX5, TX5, 4, cf_5, by decide, sw_big_in (List.mem_of_getElem? (i := 234) (by decide +kernel)) (by decide +kernel), rfl, rfl⟩
theorem cp_RX5_15 : cn_pf RX5 15 5 1 := ⟨RX5, TX5, 4, cf_5, by decide, sw_big_in (List.mem_of_getElem? (i := 235) (by decide +kernel)) (by decide +kernel), rfl, rfl⟩
theorem kI_RX6_3 : Cond.methodLink RX6 3 objectInit ∈ sw_big := sw_big_in (List.mem_of_getElem? (i := 289) (by decide +kernel)) (by decide +kernel)
theorem kC_RX6_9 : Cond.classLink RX6 9 RX10 ∈ sw_big := sw_big_in (List.mem_of_getElem? (i := 290) (by decide +kernel)) (by decide +kernel)
theorem cp_RX6_12 : cn_pf RX6 12 6 0 := ⟨RX6, TX6, 2, cf_6, by decide, sw_big_in (List.mem_of_getElem? (i := 292) (by decide +kernel)) (by decide +kernel), rfl, rfl⟩
theorem kI_RX7_3 : Cond.methodLink RX7 3 objectInit ∈ sw_big := sw_big_in (List.mem_of_getElem? (i := 124) (by decide +kernel)) (by decide +kernel)
theorem cp_RX7_9 : cn_pf RX7 9 7 0 := ⟨RX7, TX7, 2, cf_7, by decide, sw_big_in (List.mem_of_getElem? (i := 125) (by decide +kernel)) (by decide +kernel), rfl, rfl⟩
theorem kI_RX8_3 : Cond.methodLink RX8 3 objectInit ∈ sw_big := sw_big_in (List.mem_of_getElem? (i := 224) (by decide +kernel)) (by decide +kernel)
theorem kC_RX8_9 : Cond.classLink RX8 9 RX5 ∈ sw_big := sw_big_in (List.mem_of_getElem? (i := 225) (by decide +kernel)) (by decide +kernel)
theorem cp_RX8_11 : cn_pf RX8 11 8 0 := ⟨RX8, TX8, 3, cf_8, by decide, sw_big_in (List.mem_of_getElem? (i := 250) (by decide +kernel)) (by decide +kernel), rfl, rfl⟩
theorem kC_RX8_17 : Cond.classLink RX8 17 ("[" ++ (FieldType.array .int).toString) ∈ sw_big := sw_big_in (List.mem_of_getElem? (i := 227) (by decide +kernel)) (by decide +kernel)
theorem cp_RX8_19 : cn_pf RX8 19 8 1 := ⟨RX8, TX8, 3, cf_8, by decide, sw_big_in (List.mem_of_getElem? (i := 251) (by decide +kernel)) (by decide +kernel), rfl, rfl⟩
theorem kI_RX9_3 : Cond.methodLink RX9 3 objectInit ∈ sw_big := sw_big_in (List.mem_of_getElem? (i := 178) (by decide +kernel)) (by decide +kernel)
theorem kI_RX10_3 : Cond.methodLink RX10 3 objectInit ∈ sw_big := sw_big_in (List.mem_of_getElem? (i := 140) (by decide +kernel)) (by decide +kernel)
theorem cp_RX10_9 : cn_pf RX10 9 10 0 := ⟨RX10, TX10, 2, cf_10, by decide, sw_big_in (List.mem_of_getElem? (i := 141) (by decide +kernel)) (by decide +kernel), rfl, rfl⟩
theorem kI_RX11_3 : Cond.methodLink RX11 3 objectInit ∈ sw_big := sw_big_in (List.mem_of_getElem? (i := 77) (by decide +kernel)) (by decide +kernel)
theorem kC_RX11_9 : Cond.classLink RX11 9 RX3 ∈ sw_big := sw_big_in (List.mem_of_getElem? (i := 80) (by decide +kernel)) (by decide +kernel)
theorem kI_RX11_11 : Cond.methodLink RX11 11 yX3_init ∈ sw_big := sw_big_in (List.mem_of_getElem? (i := 82) (by decide +kernel)) (by decide +kernel)
theorem cp_RX11_12 : cn_pf RX11 12 11 0 := ⟨RX11, TX11, 15, cf_11, by decide, sw_big_in (List.mem_of_getElem? (i := 321) (by decide +kernel)) (by decide +kernel), rfl, rfl⟩
theorem cp_RX11_18 : cn_pf RX11 18 11 1 := ⟨RX11, TX11, 15, cf_11, by decide, sw_big_in (List.mem_of_getElem? (i := 322) (by decide +kernel)) (by decide +kernel), rfl, rfl⟩
theorem kC_RX11_21 : Cond.classLink RX11 21 RX0 ∈ sw_big := sw_big_in (List.mem_of_getElem? (i := 167) (by decide +kernel)) (by decide +kernel)
theorem cp_RX11_24 : cn_pf RX11 24 11 2 := ⟨RX11, TX11, 15, cf_11, by decide, sw_big_in (List.mem_of_getElem? (i := 323) (by decide +kernel)) (by decide +kernel), rfl, rfl⟩
theorem kC_RX11_28 : Cond.classLink RX11 28 RX8 ∈ sw_big := sw_big_in (List.mem_of_getElem? (i := 219) (by decide +kernel)) (by decide +kernel)
theorem kI_RX11_30 : Cond.methodLink RX11 30 yX8_init ∈ sw_big := sw_big_in (List.mem_of_getElem? (i := 221) (by decide +kernel)) (by decide +kernel)
theorem cp_RX11_31 : cn_pf RX11 31 11 3 := ⟨RX11, TX11, 15, cf_11, by decide, sw_big_in (List.mem_of_getElem? (i := 324) (by decide +kernel)) (by decide +kernel), rfl, rfl⟩
theorem kC_RX11_35 : Cond.classLink RX11 35 RX5 ∈ sw_big := sw_big_in (List.mem_of_getElem? (i := 260) (by decide +kernel)) (by decide +kernel)
theorem cp_RX11_38 : cn_pf RX11 38 11 4 := ⟨RX11, TX11, 15, cf_11, by decide, sw_big_in (List.mem_of_getElem? (i := 325) (by decide +kernel)) (by decide +kernel), rfl, rfl⟩
theorem kC_RX11_42 : Cond.classLink RX11 42 RX10 ∈ sw_big := sw_big_in (List.mem_of_getElem? (i := 262) (by decide +kernel)) (by decide +kernel)
theorem cp_RX11_45 : cn_pf RX11 45 11 5 := ⟨RX11, TX11, 15, cf_11, by decide, sw_big_in (List.mem_of_getElem? (i := 326) (by decide +kernel)) (by decide +kernel), rfl, rfl⟩
theorem kC_RX11_49 : Cond.classLink RX11 49 RX9 ∈ sw_big := sw_big_in (List.mem_of_getElem? (i := 264) (by decide +kernel)) (by decide +kernel)
theorem cp_RX11_52 : cn_pf RX11 52 11 6 := ⟨RX11, TX11, 15, cf_11, by decide, sw_big_in (List.mem_of_getElem? (i := 327) (by decide +kernel)) (by decide +kernel), rfl, rfl⟩
theorem kC_RX11_56 : Cond.classLink RX11 56 RX2 ∈ sw_big := sw_big_in (List.mem_of_getElem? (i := 266) (by decide +kernel)) (by decide +kernel)
theorem kI_RX11_58 : Cond.methodLink RX11 58 yX2_init ∈ sw_big := sw_big_in (List.mem_of_getElem? (i := 268) (by decide +kernel)) (by decide +kernel)
theorem cp_RX11_61 : cn_pf RX11 61 11 7 := ⟨RX11, TX11, 15, cf_11, by decide, sw_big_in (List.mem_of_getElem? (i := 328) (by decide +kernel)) (by decide +kernel), rfl, rfl⟩
theorem cp_RX11_65 : cn_pf RX11 65 11 8 := ⟨RX11, TX11, 15, cf_11, by decide, sw_big_in (List.mem_of_getElem? (i := 329) (by decide +kernel)) (by decide +kernel), rfl, rfl⟩
theorem kC_RX11_68 : Cond.classLink RX11 68 RX6 ∈ sw_big := sw_big_in (List.mem_of_getElem? (i := 284) (by decide +kernel)) (by decide +kernel)
theorem cp_RX11_71 : cn_pf RX11 71 11 9 := ⟨RX11, TX11, 15, cf_11, by decide, sw_big_in (List.mem_of_getElem? (i := 330) (by decide +kernel)) (by decide +kernel), rfl, rfl⟩
theorem kC_RX11_75 : Cond.classLink RX11 75 RX4 ∈ sw_big := sw_big_in (List.mem_of_getElem? (i := 301) (by decide +kernel)) (by decide +kernel)
theorem kI_RX11_77 : Cond.methodLink RX11 77 yX4_init ∈ sw_big := sw_big_in (List.mem_of_getElem? (i := 303) (by decide +kernel)) (by decide +kernel)
theorem cp_RX11_78 : cn_pf RX11 78 11 10 := ⟨RX11, TX11, 15, cf_11, by decide, sw_big_in (List.mem_of_getElem? (i := 331) (by decide +kernel)) (by decide +kernel), rfl, rfl⟩
theorem kI_RX12_3 : Cond.methodLink RX12 3 objectInit ∈ sw_big := sw_big_in (List.mem_of_getElem? (i := 921) (by decide +kernel)) (by decide +kernel)
theorem cp_RX12_9 : cn_pf RX12 9 12 1 := ⟨RX12, TX12, 34, cf_12, by decide, sw_big_in (List.mem_of_getElem? (i := 923) (by decide +kernel)) (by decide +kernel), rfl, rfl⟩
theorem cp_RX12_15 : cn_pf RX12 15 12 2 := ⟨RX12, TX12, 34, cf_12, by decide, sw_big_in (List.mem_of_getElem? (i := 924) (by decide +kernel)) (by decide +kernel), rfl, rfl⟩
theorem cp_RX12_18 : cn_pf RX12 18 12 3 := ⟨RX12, TX12, 34, cf_12, by decide, sw_big_in (List.mem_of_getElem? (i := 925) (by decide +kernel)) (by decide +kernel), rfl, rfl⟩
theorem cp_RX12_21 : cn_pf RX12 21 12 4 := ⟨RX12, TX12, 34, cf_12, by decide, sw_big_in (List.mem_of_getElem? (i := 926) (by decide +kernel)) (by decide +kernel), rfl, rfl⟩
theorem cp_RX12_24 : cn_pf RX12 24 12 6 := ⟨RX12, TX12, 34, cf_12, by decide, sw_big_in (List.mem_of_getElem? (i := 928) (by decide +kernel)) (by decide +kernel), rfl, rfl⟩
theorem cp_RX12_27 : cn_pf RX12 27 12 7 := ⟨RX12, TX12, 34, cf_12, by decide, sw_big_in (List.mem_of_getElem? (i := 929) (by decide +kernel)) (by decide +kernel), rfl, rfl⟩
theorem cp_RX12_30 : cn_pf RX12 30 12 9 := ⟨RX12, TX12, 34, cf_12, by decide, sw_big_in (List.mem_of_getElem? (i := 931) (by decide +kernel)) (by decide +kernel), rfl, rfl⟩
theorem cp_RX12_33 : cn_pf RX12 33 12 10 := ⟨RX12, TX12, 34, cf_12, by decide, sw_big_in (List.mem_of_getElem? (i := 932) (by decide +kernel)) (by decide +kernel), rfl, rfl⟩
theorem cp_RX12_37 : cn_pf RX12 37 12 11 := ⟨RX12, TX12, 34, cf_12, by decide, sw_big_in (List.mem_of_getElem? (i := 933) (by decide +kernel)) (by decide +kernel), rfl, rfl⟩
theorem cp_RX12_40 : cn_pf RX12 40 12 12 := ⟨RX12, TX12, 34, cf_12, by decide, sw_big_in (List.mem_of_getElem? (i := 934) (by decide +kernel)) (by decide +kernel), rfl, rfl⟩
theorem cp_RX12_43 : cn_pf RX12 43 12 13 := ⟨RX12, TX12, 34, cf_12, by decide, sw_big_in (List.mem_of_getElem? (i := 935) (by decide +kernel)) (by decide +kernel), rfl, rfl⟩
theorem cp_RX12_46 : cn_pf RX12 46 12 17 := ⟨RX12, TX12, 34, cf_12, by decide, sw_big_in (List.mem_of_getElem? (i := 939) (by decide +kernel)) (by decide +kernel), rfl, rfl⟩
theorem cp_RX12_49 : cn_pf RX12 49 12 18 := ⟨RX12, TX12, 34, cf_12, by decide, sw_big_in (List.mem_of_getElem? (i := 940) (by decide +kernel)) (by decide +kernel), rfl, rfl⟩
theorem cp_RX12_52 : cn_pf RX12 52 12 20 := ⟨RX12, TX12, 34, cf_12, by decide, sw_big_in (List.mem_of_getElem? (i := 942) (by decide +kernel)) (by decide +kernel), rfl, rfl⟩
theorem cp_RX12_55 : cn_pf RX12 55 12 21 := ⟨RX12, TX12, 34, cf_12, by decide, sw_big_in (List.mem_of_getElem? (i := 943) (by decide +kernel)) (by decide +kernel), rfl, rfl⟩
theorem cp_RX12_58 : cn_pf RX12 58 12 22 := ⟨RX12, TX12, 34, cf_12, by decide, sw_big_in (List.mem_of_getElem? (i := 944) (by decide +kernel)) (by decide +kernel), rfl, rfl⟩
theorem cp_RX12_61 : cn_pf RX12 61 12 23 := ⟨RX12, TX12, 34, cf_12, by decide, sw_big_in (List.mem_of_getElem? (i := 945) (by decide +kernel)) (by decide +kernel), rfl, rfl⟩
theorem cp_RX12_64 : cn_pf RX12 64 12 24 := ⟨RX12, TX12, 34, cf_12, by decide, sw_big_in (List.mem_of_getElem? (i := 946) (by decide +kernel)) (by decide +kernel), rfl, rfl⟩
theorem cp_RX12_67 : cn_pf RX12 67 12 26 := ⟨RX12, TX12, 34, cf_12, by decide, sw_big_in (List.mem_of_getElem? (i := 948) (by decide +kernel)) (by decide +kernel), rfl, rfl⟩
theorem cp_RX12_71 : cn_pf RX12 71 12 27 := ⟨RX12, TX12, 34, cf_12, by decide, sw_big_in (List.mem_of_getElem? (i := 949) (by decide +kernel)) (by decide +kernel), rfl, rfl⟩
theorem cp_RX12_74 : cn_pf RX12 74 12 28 := ⟨RX12, TX12, 34, cf_12, by decide, sw_big_in (List.mem_of_getElem? (i := 950) (by decide +kernel)) (by decide +kernel), rfl, rfl⟩
theorem cp_RX12_77 : cn_pf RX12 77 12 30 := ⟨RX12, TX12, 34, cf_12, by decide, sw_big_in (List.mem_of_getElem? (i := 952) (by decide +kernel)) (by decide +kernel), rfl, rfl⟩
theorem cp_RX12_80 : cn_pf RX12 80 12 33 := ⟨RX12, TX12, 34, cf_12, by decide, sw_big_in (List.mem_of_getElem? (i := 955) (by decide +kernel)) (by decide +kernel), rfl, rfl⟩
theorem cn_eqw {X : sw_X} {l : Launch} {d : Nat} {y : sw_M} {mc ms sz : Nat} {w0 : va_W} {Qc : sw_Q} {pc : Nat} {lc : List (Nat × Value)} {st : List Value} {ws ws' : va_W} {k n : Nat} (h : ws = ws') (kk : cn_wp X l d y mc ms sz w0 Qc pc lc st ws' k n) : cn_wp X l d y mc ms sz w0 Qc pc lc st ws k n := h ▸ kk
/-- a row of references, told otherwise -/
theorem cn_eqR {X : sw_X} {l : Launch} {d : Nat} {y : sw_M} {mc ms sz : Nat} {w0 : va_W} {Qc : sw_Q} {pc : Nat} {lc : List (Nat × Value)} {st : List Value} {ws : va_W} {k n a z : Nat} {cA : ClassId} {f : Nat → Option Nat} (q0 : Nat) (f' : Nat → Option Nat) (he : ws[q0]? = some (a, .inl (cA, z, .inr (.inr (.inr (.inr f)))))) (h : ∀ j, j < z → f j = f' j) (kk : cn_wp X l d y mc ms sz w0 Qc pc lc st (ws.set q0 (a, .inl (cA, z, .inr (.inr (.inr (.inr f')))))) k n) : cn_wp X l d y mc ms sz w0 Qc pc lc st ws k n := by
  intro p e s m args below meth c s₁ B hml hK hz H locs hP hD hS ls hl
  refine kk p e s m args below meth c s₁ B hml hK hz H locs (hP.set hD he ?_ (fun q _ => rfl)) (hD.set he) hS ls hl
  have h0 := hP q0 _ he
  have h0 : H[a]? = some (vp_cell cA (z, .inr (.inr (.inr (.inr f))))) := h0
  show H[a]? = some (vp_cell cA (z, .inr (.inr (.inr (.inr f')))))
  rw [h0, vp_cell_q, vp_cell_q, arrV, arrV]
  congr 2
  apply Array.ext_getElem?
  intro j
  by_cases hj : j < z
  · simp [hj, h j hj]
  · simp [hj]
def cw_10 (X : sw_X) (u : Nat → Nat) : va_W := [(u 0, .inr (10, [.ref (u 1), .int 1])), (u 1, .inl (X.2.2.1 0, 4, .inl fun _ => 0))]
def cw_9 (X : sw_X) (u : Nat → Nat) : va_W := [(u 0, .inr (9, [.long 0, .long 1, .long 1]))]
def cw_7 (X : sw_X) (u : Nat → Nat) : va_W := [(u 0, .inr (7, [.ref (u 1), .int 0])), (u 1, .inl (X.2.2.1 0, 4, .inl fun _ => 0))]
def cw_1 (X : sw_X) (u : Nat → Nat) : va_W := [(u 0, .inr (1, [.ref (u 1), .ref (u 2), .int 0])), (u 1, .inl (X.2.2.1 0, 4, .inl fun _ => 0)), (u 2, .inl (X.2.2.1 0, 4, .inl fun _ => 0))]
def cw_5 (X : sw_X) (u : Nat → Nat) : va_W := [(u 0, .inr (5, [.ref (u 1), .ref (u 2), .int 3, .int 0])), (u 1, .inl (X.2.2.1 2, 97, .inl fun _ => 0)), (u 2, .inl (X.2.2.1 0, 97, .inl fun _ => 0))]
def cw_2 (X : sw_X) (N : Nat) (u : Nat → Nat) : va_W := [(u 0, .inr (2, [.ref (u 1), .int 0])), (u 1, .inl (X.2.2.1 0, N, .inl fun _ => 0))]
def cw_6 (X : sw_X) (u : Nat → Nat) : va_W := (u 0, .inr (6, [.ref (u 1), .int 0])) :: cw_10 X (fun j => u (1 + j))
def cw_0 (X : sw_X) (u : Nat → Nat) : va_W := (u 0, .inr (0, [.ref (u 1), .ref (u 2), .ref (u 3), .ref (u 4), .ref (u 5), .int 0, .int 0])) :: (u 1, .inl (X.2.2.1 1, 264, .inr (.inl fun _ => 0))) :: (u 2, .inl (X.2.2.1 1, 264, .inr (.inl fun _ => 0))) :: (u 3, .inl (X.2.2.1 0, 264, .inl fun _ => 0)) :: (u 4, .inl (X.2.2.1 0, 44, .inl fun _ => 0)) :: cw_9 X (fun j => u (5 + j))
def cw_4 (X : sw_X) (u : Nat → Nat) : va_W := [(u 0, .inr (4, [.ref (u 1), .ref (u 5)])), (u 1, .inl (X.2.2.1 6, 3, .inr (.inr (.inr (.inr (va_up (va_up (va_up (fun _ => none) 0 (some (u 2))) 1 (some (u 3))) 2 (some (u 4)))))))), (u 2, .inl (X.2.2.1 1, 20, .inr (.inl fun _ => 0))), (u 3, .inl (X.2.2.1 1, 20, .inr (.inl fun _ => 0))), (u 4, .inl (X.2.2.1 1, 20, .inr (.inl fun _ => 0))), (u 5, .inl (X.2.2.1 0, 3, .inl fun j => if j < 3 then -1 else 0))]
def cw_3 (X : sw_X) (u : Nat → Nat) : va_W := (u 0, .inr (3, [.ref (u 1), .ref (u 4), .ref (u 5)])) :: (cw_1 X (fun j => u (1 + j)) ++ ((u 4, .inl (X.2.2.1 3, 4, .inr (.inr (.inr (.inr (va_up (va_up (va_up (va_up (fun _ => none) 0 (some (u 7))) 1 (some (u 9))) 2 (some (u 11))) 3 (some (u 13)))))))) :: (cw_7 X (fun j => u (5 + j)) ++ (cw_10 X (fun j => u (7 + j)) ++ (cw_10 X (fun j => u (9 + j)) ++ (cw_10 X (fun j => u (11 + j)) ++ cw_10 X (fun j => u (13 + j))))))))
def cw_8 (X : sw_X) (u : Nat → Nat) : va_W := (u 0, .inr (8, [.ref (u 1), .ref (u 2), .int 0])) :: ((u 1, .inl (X.2.2.1 4, 4, .inr (.inr (.inr (.inr (va_up (va_up (va_up (va_up (fun _ => none) 0 (some (u 8))) 1 (some (u 11))) 2 (some (u 14))) 3 (some (u 17)))))))) :: ((u 2, .inl (X.2.2.1 5, 5, .inr (.inr (.inr (.inr (va_up (va_up (va_up (va_up (va_up (fun _ => none) 0 (some (u 3))) 1 (some (u 4))) 2 (some (u 5))) 3 (some (u 6))) 4 (some (u 7)))))))) :: ((u 3, .inl (X.2.2.1 0, 4, .inl fun _ => 0)) :: (u 4, .inl (X.2.2.1 0, 4, .inl fun _ => 0)) :: (u 5, .inl (X.2.2.1 0, 4, .inl fun _ => 0)) :: (u 6, .inl (X.2.2.1 0, 4, .inl fun _ => 0)) :: (u 7, .inl (X.2.2.1 0, 4, .inl fun _ => 0)) :: (cw_5 X (fun j => u (8 + j)) ++ (cw_5 X (fun j => u (11 + j)) ++ (cw_5 X (fun j => u (14 + j)) ++ cw_5 X (fun j => u (17 + j))))))))
theorem kX10 {X : sw_X} {l : Launch} {d : Nat} (h0 : Nat) : cn_ct X l (d + 1) mX10_init [.ref h0] [(h0, .inr (10, [.null, .int 0]))] (cw_10 X) h0 1 4 := by
  refine cn_ct_of (by decide +kernel) (Nat.le_of_ble_eq_true rfl) rfl (fun sz => ?_)
  refine cn_aload 1 0 dX10_init_0 rfl rfl ?_
  refine cn_obj 4 kI_RX10_3 ko_ins ko_cod dX10_init_1 rfl ?_
  refine cn_aload 5 0 dX10_init_4 rfl rfl ?_
  refine cn_iconst 6 (4) dX10_init_5 rfl (by decide) ?_
  refine cn_newI 8 4 ka_int dX10_init_6 rfl (by decide) (by decide) (Nat.le_of_ble_eq_true rfl) (Nat.le_of_ble_eq_true rfl) (Nat.le_of_ble_eq_true rfl) (fun q0 => ?_)
  refine cn_eqw (ws' := ((h0, .inr (10, [.null, .int 0])) :: ((q0, .inl (X.2.2.1 0, 4, .inl fun _ => 0)) :: []))) rfl ?_
  refine cn_putF 11 0 cp_RX10_9 rfl rfl rfl rfl (Nat.le_of_ble_eq_true rfl) dX10_init_8 rfl ?_
  refine cn_eqw (ws' := ((h0, .inr (10, [.ref q0, .int 0])) :: ((q0, .inl (X.2.2.1 0, 4, .inl fun _ => 0)) :: []))) rfl ?_
  refine cn_aload 12 0 dX10_init_11 rfl rfl ?_
  refine cn_iconst 13 (1) dX10_init_12 rfl (by decide) ?_
  refine cn_put 16 0 pf_RX10_15 rfl rfl rfl (Nat.le_of_ble_eq_true rfl) dX10_init_13 rfl ?_
  refine cn_eqw (ws' := ((h0, .inr (10, [.ref q0, .int 1])) :: ((q0, .inl (X.2.2.1 0, 4, .inl fun _ => 0)) :: []))) rfl ?_
  exact cn_ret (fun j => [h0, q0].getD j 0) dX10_init_16 rfl rfl rfl (Nat.le_refl _) (Nat.le_refl _)
theorem kX2 {X : sw_X} {l : Launch} {d : Nat} (N : Nat) (h0 : Nat) (hN : N < 1000) : cn_ct X l (d + 1) mX2_init [.ref h0, .int (zI N)] [(h0, .inr (2, [.null, .int 0]))] (cw_2 X N) h0 1 N := by
  refine cn_ct_of (by decide +kernel) (Nat.le_of_ble_eq_true rfl) rfl (fun sz => ?_)
  refine cn_aload 1 0 dX2_init_0 rfl rfl ?_
  refine cn_obj 4 kI_RX2_1 ko_ins ko_cod dX2_init_1 rfl ?_
  refine cn_aload 5 0 dX2_init_4 rfl rfl ?_
  refine cn_iload 6 1 dX2_init_5 rfl rfl ?_
  refine cn_iconst 7 (zI 0) dX2_init_6 rfl (by decide) ?_
  refine cn_max (a := N) (b := 0) 10 (by omega) (by omega) (by decide) (by decide) lk_RX2_7 dX2_init_7 rfl (Nat.le_of_ble_eq_true rfl) (Nat.zero_le _) (Nat.zero_le _) ?_
  rw [show max (N : Int) 0 = N by omega]
  refine cn_newI 12 N ka_int dX2_init_10 rfl (fun q => ?_) (zI_clampN (by omega)) (by omega) (Nat.le_refl _) (by omega) (fun q0 => ?_)
  · rw [z0, zI_lt (by omega) (by omega) (by omega) (by omega)] at q; omega
  refine cn_putF 15 0 cp_RX2_13 rfl rfl rfl rfl (Nat.le_of_ble_eq_true rfl) dX2_init_12 rfl ?_
  exact cn_ret (fun j => [h0, q0].getD j 0) dX2_init_15 rfl rfl rfl (Nat.le_refl _) (by omega)
theorem kX9 {X : sw_X} {l : Launch} {d : Nat} (h0 : Nat) : cn_ct X l (d + 1) mX9_init [.ref h0] [(h0, .inr (9, [.long 0, .long 0, .long 0]))] (cw_9 X) h0 0 0 := by
  refine cn_ct_of (by decide +kernel) (Nat.le_of_ble_eq_true rfl) rfl (fun sz => ?_)
  refine cn_aload 1 0 dX9_init_0 rfl rfl ?_
  refine cn_obj 4 kI_RX9_3 ko_ins ko_cod dX9_init_1 rfl ?_
  refine cn_aload 5 0 dX9_init_4 rfl rfl ?_
  refine cn_lconst 6 1 dX9_init_5 rfl (by decide) ?_
  refine cn_put 9 0 pf_RX9_9 rfl rfl rfl (Nat.le_of_ble_eq_true rfl) dX9_init_6 rfl ?_
  refine cn_eqw (ws' := ((h0, .inr (9, [.long 0, .long 1, .long 0])) :: [])) rfl ?_
  refine cn_aload 10 0 dX9_init_9 rfl rfl ?_
  refine cn_lconst 11 1 dX9_init_10 rfl (by decide) ?_
  refine cn_put 14 0 pf_RX9_15 rfl rfl rfl (Nat.le_of_ble_eq_true rfl) dX9_init_11 rfl ?_
  refine cn_eqw (ws' := ((h0, .inr (9, [.long 0, .long 1, .long 1])) :: [])) rfl ?_
  exact cn_ret (fun j => [h0].getD j 0) dX9_init_14 rfl rfl rfl (Nat.le_refl _) (Nat.le_refl _)
theorem kX7 {X : sw_X} {l : Launch} {d : Nat} (h0 : Nat) : cn_ct X l (d + 1) mX7_init [.ref h0] [(h0, .inr (7, [.null, .int 0]))] (cw_7 X) h0 1 4 := by
  refine cn_ct_of (by decide +kernel) (Nat.le_of_ble_eq_true rfl) rfl (fun sz => ?_)
  refine cn_aload 1 0 dX7_init_0 rfl rfl ?_
  refine cn_obj 4 kI_RX7_3 ko_ins ko_cod dX7_init_1 rfl ?_
  refine cn_aload 5 0 dX7_init_4 rfl rfl ?_
  refine cn_iconst 6 (4) dX7_init_5 rfl (by decide) ?_
  refine cn_newI 8 4 ka_int dX7_init_6 rfl (by decide) (by decide) (Nat.le_of_ble_eq_true rfl) (Nat.le_of_ble_eq_true rfl) (Nat.le_of_ble_eq_true rfl) (fun q0 => ?_)
  refine cn_eqw (ws' := ((h0, .inr (7, [.null, .int 0])) :: ((q0, .inl (X.2.2.1 0, 4, .inl fun _ => 0)) :: []))) rfl ?_
  refine cn_putF 11 0 cp_RX7_9 rfl rfl rfl rfl (Nat.le_of_ble_eq_true rfl) dX7_init_8 rfl ?_
  refine cn_eqw (ws' := ((h0, .inr (7, [.ref q0, .int 0])) :: ((q0, .inl (X.2.2.1 0, 4, .inl fun _ => 0)) :: []))) rfl ?_
  exact cn_ret (fun j => [h0, q0].getD j 0) dX7_init_11 rfl rfl rfl (Nat.le_refl _) (Nat.le_refl _)
theorem kX1 {X : sw_X} {l : Launch} {d : Nat} (h0 : Nat) : cn_ct X l (d + 1) mX1_init [.ref h0] [(h0, .inr (1, [.null, .null, .int 0]))] (cw_1 X) h0 2 8 := by
  refine cn_ct_of (by decide +kernel) (Nat.le_of_ble_eq_true rfl) rfl (fun sz => ?_)
  refine cn_aload 1 0 dX1_init_0 rfl rfl ?_
  refine cn_obj 4 kI_RX1_3 ko_ins ko_cod dX1_init_1 rfl ?_
  refine cn_aload 5 0 dX1_init_4 rfl rfl ?_
  refine cn_iconst 6 (4) dX1_init_5 rfl (by decide) ?_
  refine cn_newI 8 4 ka_int dX1_init_6 rfl (by decide) (by decide) (Nat.le_of_ble_eq_true rfl) (Nat.le_of_ble_eq_true rfl) (Nat.le_of_ble_eq_true rfl) (fun q0 => ?_)
  refine cn_eqw (ws' := ((h0, .inr (1, [.null, .null, .int 0])) :: ((q0, .inl (X.2.2.1 0, 4, .inl fun _ => 0)) :: []))) rfl ?_
  refine cn_putF 11 0 cp_RX1_9 rfl rfl rfl rfl (Nat.le_of_ble_eq_true rfl) dX1_init_8 rfl ?_
  refine cn_eqw (ws' := ((h0, .inr (1, [.ref q0, .null, .int 0])) :: ((q0, .inl (X.2.2.1 0, 4, .inl fun _ => 0)) :: []))) rfl ?_
  refine cn_aload 12 0 dX1_init_11 rfl rfl ?_
  refine cn_iconst 13 (4) dX1_init_12 rfl (by decide) ?_
  refine cn_newI 15 4 ka_int dX1_init_13 rfl (by decide) (by decide) (Nat.le_of_ble_eq_true rfl) (Nat.le_of_ble_eq_true rfl) (Nat.le_of_ble_eq_true rfl) (fun q1 => ?_)
  refine cn_eqw (ws' := ((h0, .inr (1, [.ref q0, .null, .int 0])) :: ((q0, .inl (X.2.2.1 0, 4, .inl fun _ => 0)) :: ((q1, .inl (X.2.2.1 0, 4, .inl fun _ => 0)) :: [])))) rfl ?_
  refine cn_putF 18 0 cp_RX1_15 rfl rfl rfl rfl (Nat.le_of_ble_eq_true rfl) dX1_init_15 rfl ?_
  refine cn_eqw (ws' := ((h0, .inr (1, [.ref q0, .ref q1, .int 0])) :: ((q0, .inl (X.2.2.1 0, 4, .inl fun _ => 0)) :: ((q1, .inl (X.2.2.1 0, 4, .inl fun _ => 0)) :: [])))) rfl ?_
  exact cn_ret (fun j => [h0, q0, q1].getD j 0) dX1_init_18 rfl rfl rfl (Nat.le_refl _) (Nat.le_refl _)
theorem kX5 {X : sw_X} {l : Launch} {d : Nat} (h0 : Nat) : cn_ct X l (d + 1) mX5_init [.ref h0] [(h0, .inr (5, [.null, .null, .int 0, .int 0]))] (cw_5 X) h0 2 194 := by
  refine cn_ct_of (by decide +kernel) (Nat.le_of_ble_eq_true rfl) rfl (fun sz => ?_)
  refine cn_aload 1 0 dX5_init_0 rfl rfl ?_
  refine cn_obj 4 kI_RX5_3 ko_ins ko_cod dX5_init_1 rfl ?_
  refine cn_aload 5 0 dX5_init_4 rfl rfl ?_
  refine cn_bipush 7 (97) dX5_init_5 rfl (by decide) ?_
  refine cn_newZ 9 97 ka_boolean dX5_init_7 rfl (by decide) (by decide) (Nat.le_of_ble_eq_true rfl) (Nat.le_of_ble_eq_true rfl) (Nat.le_of_ble_eq_true rfl) (fun q0 => ?_)
  refine cn_eqw (ws' := ((h0, .inr (5, [.null, .null, .int 0, .int 0])) :: ((q0, .inl (X.2.2.1 2, 97, .inl fun _ => 0)) :: []))) rfl ?_
  refine cn_putF 12 0 cp_RX5_9 rfl rfl rfl rfl (Nat.le_of_ble_eq_true rfl) dX5_init_9 rfl ?_
  refine cn_eqw (ws' := ((h0, .inr (5, [.ref q0, .null, .int 0, .int 0])) :: ((q0, .inl (X.2.2.1 2, 97, .inl fun _ => 0)) :: []))) rfl ?_
  refine cn_aload 13 0 dX5_init_12 rfl rfl ?_
  refine cn_bipush 15 (97) dX5_init_13 rfl (by decide) ?_
  refine cn_newI 17 97 ka_int dX5_init_15 rfl (by decide) (by decide) (Nat.le_of_ble_eq_true rfl) (Nat.le_of_ble_eq_true rfl) (Nat.le_of_ble_eq_true rfl) (fun q1 => ?_)
  refine cn_eqw (ws' := ((h0, .inr (5, [.ref q0, .null, .int 0, .int 0])) :: ((q0, .inl (X.2.2.1 2, 97, .inl fun _ => 0)) :: ((q1, .inl (X.2.2.1 0, 97, .inl fun _ => 0)) :: [])))) rfl ?_
  refine cn_putF 20 0 cp_RX5_15 rfl rfl rfl rfl (Nat.le_of_ble_eq_true rfl) dX5_init_17 rfl ?_
  refine cn_eqw (ws' := ((h0, .inr (5, [.ref q0, .ref q1, .int 0, .int 0])) :: ((q0, .inl (X.2.2.1 2, 97, .inl fun _ => 0)) :: ((q1, .inl (X.2.2.1 0, 97, .inl fun _ => 0)) :: [])))) rfl ?_
  refine cn_aload 21 0 dX5_init_20 rfl rfl ?_
  refine cn_iconst 22 (3) dX5_init_21 rfl (by decide) ?_
  refine cn_put 25 0 pf_RX5_19 rfl rfl rfl (Nat.le_of_ble_eq_true rfl) dX5_init_22 rfl ?_
  refine cn_eqw (ws' := ((h0, .inr (5, [.ref q0, .ref q1, .int 3, .int 0])) :: ((q0, .inl (X.2.2.1 2, 97, .inl fun _ => 0)) :: ((q1, .inl (X.2.2.1 0, 97, .inl fun _ => 0)) :: [])))) rfl ?_
  exact cn_ret (fun j => [h0, q0, q1].getD j 0) dX5_init_25 rfl rfl rfl (Nat.le_refl _) (Nat.le_refl _)
theorem kX6 {X : sw_X} {l : Launch} {d : Nat} (h0 : Nat) : cn_ct X l (d + 2) mX6_init [.ref h0] [(h0, .inr (6, [.null, .int 0]))] (cw_6 X) h0 2 6 := by
  refine cn_ct_of (by decide +kernel) (Nat.le_of_ble_eq_true rfl) rfl (fun sz => ?_)
  refine cn_aload 1 0 dX6_init_0 rfl rfl ?_
  refine cn_obj 4 kI_RX6_3 ko_ins ko_cod dX6_init_1 rfl ?_
  refine cn_aload 5 0 dX6_init_4 rfl rfl ?_
  refine cn_new 8 cf_10 kC_RX6_9 kt_10 kn_RX10 [.null, .int 0] (fun j hj => by rcases (show j = 0 ∨ j = 1 by omega) with rfl | rfl <;> rfl) dX6_init_5 rfl (Nat.le_of_ble_eq_true rfl) (Nat.le_of_ble_eq_true rfl) (fun q0 => ?_)
  refine cn_dup 9 dX6_init_8 rfl rfl ?_
  refine cn_ctor (y2 := mX10_init) (np := 0) (As := []) 12 (Or.inr ⟨RX11, List.mem_of_getElem? (i := 10) rfl⟩) kn_RX10 ki_X10_init kc_X10_init rfl rfl ⟨by decide +kernel, by decide +kernel, by decide +kernel⟩ (by decide) (kX10 _) rfl rfl (Nat.le_of_ble_eq_true rfl) dX6_init_9 rfl (Nat.le_of_ble_eq_true rfl) (Nat.le_of_ble_eq_true rfl) (fun u1 hu1 => ?_)
  subst hu1
  refine cn_eqw (ws' := ((h0, .inr (6, [.null, .int 0])) :: cw_10 X u1)) rfl ?_
  refine cn_putF 15 0 cp_RX6_12 rfl rfl rfl rfl (Nat.le_of_ble_eq_true rfl) dX6_init_12 rfl ?_
  refine cn_eqw (ws' := ((h0, .inr (6, [.ref (u1 0), .int 0])) :: cw_10 X u1)) rfl ?_
  exact cn_ret (fun j => [h0, u1 0, u1 1].getD j 0) dX6_init_15 rfl rfl rfl (Nat.le_refl _) (Nat.le_refl _)
theorem kX0 {X : sw_X} {l : Launch} {d : Nat} (h0 : Nat) : cn_ct X l (d + 2) mX0_init [.ref h0] [(h0, .inr (0, [.null, .null, .null, .null, .null, .int 0, .int 0]))] (cw_0 X) h0 5 839 := by
  refine cn_ct_of (by decide +kernel) (Nat.le_of_ble_eq_true rfl) rfl (fun sz => ?_)
  refine cn_aload 1 0 dX0_init_0 rfl rfl ?_
  refine cn_obj 4 kI_RX0_3 ko_ins ko_cod dX0_init_1 rfl ?_
  refine cn_aload 5 0 dX0_init_4 rfl rfl ?_
  refine cn_sipush 8 (264) dX0_init_5 rfl (by decide) ?_
  refine cn_newL 10 264 ka_long dX0_init_8 rfl (by decide) (by decide) (Nat.le_of_ble_eq_true rfl) (Nat.le_of_ble_eq_true rfl) (Nat.le_of_ble_eq_true rfl) (fun q0 => ?_)
  refine cn_eqw (ws' := ((h0, .inr (0, [.null, .null, .null, .null, .null, .int 0, .int 0])) :: ((q0, .inl (X.2.2.1 1, 264, .inr (.inl fun _ => 0))) :: []))) rfl ?_
  refine cn_putF 13 0 cp_RX0_9 rfl rfl rfl rfl (Nat.le_of_ble_eq_true rfl) dX0_init_10 rfl ?_
  refine cn_eqw (ws' := ((h0, .inr (0, [.ref q0, .null, .null, .null, .null, .int 0, .int 0])) :: ((q0, .inl (X.2.2.1 1, 264, .inr (.inl fun _ => 0))) :: []))) rfl ?_
  refine cn_aload 14 0 dX0_init_13 rfl rfl ?_
  refine cn_sipush 17 (264) dX0_init_14 rfl (by decide) ?_
  refine cn_newL 19 264 ka_long dX0_init_17 rfl (by decide) (by decide) (Nat.le_of_ble_eq_true rfl) (Nat.le_of_ble_eq_true rfl) (Nat.le_of_ble_eq_true rfl) (fun q1 => ?_)
  refine cn_eqw (ws' := ((h0, .inr (0, [.ref q0, .null, .null, .null, .null, .int 0, .int 0])) :: ((q0, .inl (X.2.2.1 1, 264, .inr (.inl fun _ => 0))) :: ((q1, .inl (X.2.2.1 1, 264, .inr (.inl fun _ => 0))) :: [])))) rfl ?_
  refine cn_putF 22 0 cp_RX0_15 rfl rfl rfl rfl (Nat.le_of_ble_eq_true rfl) dX0_init_19 rfl ?_
  refine cn_eqw (ws' := ((h0, .inr (0, [.ref q0, .ref q1, .null, .null, .null, .int 0, .int 0])) :: ((q0, .inl (X.2.2.1 1, 264, .inr (.inl fun _ => 0))) :: ((q1, .inl (X.2.2.1 1, 264, .inr (.inl fun _ => 0))) :: [])))) rfl ?_
  refine cn_aload 23 0 dX0_init_22 rfl rfl ?_
  refine cn_sipush 26 (264) dX0_init_23 rfl (by decide) ?_
  refine cn_newI 28 264 ka_int dX0_init_26 rfl (by decide) (by decide) (Nat.le_of_ble_eq_true rfl) (Nat.le_of_ble_eq_true rfl) (Nat.le_of_ble_eq_true rfl) (fun q2 => ?_)
  refine cn_eqw (ws' := ((h0, .inr (0, [.ref q0, .ref q1, .null, .null, .null, .int 0, .int 0])) :: ((q0, .inl (X.2.2.1 1, 264, .inr (.inl fun _ => 0))) :: ((q1, .inl (X.2.2.1 1, 264, .inr (.inl fun _ => 0))) :: ((q2, .inl (X.2.2.1 0, 264, .inl fun _ => 0)) :: []))))) rfl ?_
  refine cn_putF 31 0 cp_RX0_18 rfl rfl rfl rfl (Nat.le_of_ble_eq_true rfl) dX0_init_28 rfl ?_
  refine cn_eqw (ws' := ((h0, .inr (0, [.ref q0, .ref q1, .ref q2, .null, .null, .int 0, .int 0])) :: ((q0, .inl (X.2.2.1 1, 264, .inr (.inl fun _ => 0))) :: ((q1, .inl (X.2.2.1 1, 264, .inr (.inl fun _ => 0))) :: ((q2, .inl (X.2.2.1 0, 264, .inl fun _ => 0)) :: []))))) rfl ?_
  refine cn_aload 32 0 dX0_init_31 rfl rfl ?_
  refine cn_bipush 34 (44) dX0_init_32 rfl (by decide) ?_
  refine cn_newI 36 44 ka_int dX0_init_34 rfl (by decide) (by decide) (Nat.le_of_ble_eq_true rfl) (Nat.le_of_ble_eq_true rfl) (Nat.le_of_ble_eq_true rfl) (fun q3 => ?_)
  refine cn_eqw (ws' := ((h0, .inr (0, [.ref q0, .ref q1, .ref q2, .null, .null, .int 0, .int 0])) :: ((q0, .inl (X.2.2.1 1, 264, .inr (.inl fun _ => 0))) :: ((q1, .inl (X.2.2.1 1, 264, .inr (.inl fun _ => 0))) :: ((q2, .inl (X.2.2.1 0, 264, .inl fun _ => 0)) :: ((q3, .inl (X.2.2.1 0, 44, .inl fun _ => 0)) :: [])))))) rfl ?_
  refine cn_putF 39 0 cp_RX0_22 rfl rfl rfl rfl (Nat.le_of_ble_eq_true rfl) dX0_init_36 rfl ?_
  refine cn_eqw (ws' := ((h0, .inr (0, [.ref q0, .ref q1, .ref q2, .ref q3, .null, .int 0, .int 0])) :: ((q0, .inl (X.2.2.1 1, 264, .inr (.inl fun _ => 0))) :: ((q1, .inl (X.2.2.1 1, 264, .inr (.inl fun _ => 0))) :: ((q2, .inl (X.2.2.1 0, 264, .inl fun _ => 0)) :: ((q3, .inl (X.2.2.1 0, 44, .inl fun _ => 0)) :: [])))))) rfl ?_
  refine cn_aload 40 0 dX0_init_39 rfl rfl ?_
  refine cn_new 43 cf_9 kC_RX0_25 kt_9 kn_RX9 [.long 0, .long 0, .long 0] (fun j hj => by rcases (show j = 0 ∨ j = 1 ∨ j = 2 by omega) with rfl | rfl | rfl <;> rfl) dX0_init_40 rfl (Nat.le_of_ble_eq_true rfl) (Nat.le_of_ble_eq_true rfl) (fun q4 => ?_)
  refine cn_dup 44 dX0_init_43 rfl rfl ?_
  refine cn_ctor (y2 := mX9_init) (np := 0) (As := []) 47 (Or.inr ⟨RX11, List.mem_of_getElem? (i := 4) rfl⟩) kn_RX9 ki_X9_init kc_X9_init rfl rfl ⟨by decide +kernel, by decide +kernel, by decide +kernel⟩ (by decide) (kX9 _) rfl rfl (Nat.le_of_ble_eq_true rfl) dX0_init_44 rfl (Nat.le_of_ble_eq_true rfl) (Nat.le_of_ble_eq_true rfl) (fun u5 hu5 => ?_)
  subst hu5
  refine cn_eqw (ws' := ((h0, .inr (0, [.ref q0, .ref q1, .ref q2, .ref q3, .null, .int 0, .int 0])) :: ((q0, .inl (X.2.2.1 1, 264, .inr (.inl fun _ => 0))) :: ((q1, .inl (X.2.2.1 1, 264, .inr (.inl fun _ => 0))) :: ((q2, .inl (X.2.2.1 0, 264, .inl fun _ => 0)) :: ((q3, .inl (X.2.2.1 0, 44, .inl fun _ => 0)) :: cw_9 X u5)))))) rfl ?_
  refine cn_putF 50 0 cp_RX0_28 rfl rfl rfl rfl (Nat.le_of_ble_eq_true rfl) dX0_init_47 rfl ?_
  refine cn_eqw (ws' := ((h0, .inr (0, [.ref q0, .ref q1, .ref q2, .ref q3, .ref (u5 0), .int 0, .int 0])) :: ((q0, .inl (X.2.2.1 1, 264, .inr (.inl fun _ => 0))) :: ((q1, .inl (X.2.2.1 1, 264, .inr (.inl fun _ => 0))) :: ((q2, .inl (X.2.2.1 0, 264, .inl fun _ => 0)) :: ((q3, .inl (X.2.2.1 0, 44, .inl fun _ => 0)) :: cw_9 X u5)))))) rfl ?_
  exact cn_ret (fun j => [h0, q0, q1, q2, q3, u5 0].getD j 0) dX0_init_50 rfl rfl rfl (Nat.le_refl _) (Nat.le_refl _)
theorem kX4 {X : sw_X} {l : Launch} {d : Nat} (h0 : Nat) : cn_ct X l (d + 2) mX4_init [.ref h0] [(h0, .inr (4, [.null, .null]))] (cw_4 X) h0 5 66 := by
  refine cn_ct_of (by decide +kernel) (Nat.le_of_ble_eq_true rfl) rfl (fun sz => ?_)
  refine cn_aload 1 0 dX4_init_0 rfl rfl ?_
  refine cn_obj 4 kI_RX4_3 ko_ins ko_cod dX4_init_1 rfl ?_
  refine cn_aload 5 0 dX4_init_4 rfl rfl ?_
  refine cn_iconst 6 (3) dX4_init_5 rfl (by decide) ?_
  refine cn_bipush 8 (20) dX4_init_6 rfl (by decide) ?_
  refine cn_multi (ty := .long) 12 6 1 3 20 (20, .inr (.inl fun _ => 0)) rfl rfl (fun _ _ h => h) (fun _ => rfl) (fun _ hK => hK.2.2.1.2) kC_RX4_9 ka_long dX4_init_8 rfl (by decide) (by decide) (by decide) (by decide) (Nat.le_of_ble_eq_true rfl) (Nat.le_of_ble_eq_true rfl) (Nat.le_of_ble_eq_true rfl) rfl (Nat.le_of_ble_eq_true rfl) (Nat.le_of_ble_eq_true rfl) (fun v0 => ?_)
  refine cn_eqw (ws' := ((h0, .inr (4, [.null, .null])) :: ((v0 0, .inl (X.2.2.1 6, 3, .inr (.inr (.inr (.inr fun j => some (v0 (1 + j))))))) :: ((v0 1, .inl (X.2.2.1 1, 20, .inr (.inl fun _ => 0))) :: ((v0 2, .inl (X.2.2.1 1, 20, .inr (.inl fun _ => 0))) :: ((v0 3, .inl (X.2.2.1 1, 20, .inr (.inl fun _ => 0))) :: [])))))) rfl ?_
  refine cn_eqR 1 (va_up (va_up (va_up (fun _ => none) 0 (some (v0 1))) 1 (some (v0 2))) 2 (some (v0 3))) rfl (fun j hj => by rcases (show j = 0 ∨ j = 1 ∨ j = 2 by omega) with rfl | rfl | rfl <;> rfl) ?_
  refine cn_eqw (ws' := ((h0, .inr (4, [.null, .null])) :: ((v0 0, .inl (X.2.2.1 6, 3, .inr (.inr (.inr (.inr (va_up (va_up (va_up (fun _ => none) 0 (some (v0 1))) 1 (some (v0 2))) 2 (some (v0 3)))))))) :: ((v0 1, .inl (X.2.2.1 1, 20, .inr (.inl fun _ => 0))) :: ((v0 2, .inl (X.2.2.1 1, 20, .inr (.inl fun _ => 0))) :: ((v0 3, .inl (X.2.2.1 1, 20, .inr (.inl fun _ => 0))) :: [])))))) rfl ?_
  refine cn_putF 15 0 cp_RX4_11 rfl rfl rfl rfl (Nat.le_of_ble_eq_true rfl) dX4_init_12 rfl ?_
  refine cn_eqw (ws' := ((h0, .inr (4, [.ref (v0 0), .null])) :: ((v0 0, .inl (X.2.2.1 6, 3, .inr (.inr (.inr (.inr (va_up (va_up (va_up (fun _ => none) 0 (some (v0 1))) 1 (some (v0 2))) 2 (some (v0 3)))))))) :: ((v0 1, .inl (X.2.2.1 1, 20, .inr (.inl fun _ => 0))) :: ((v0 2, .inl (X.2.2.1 1, 20, .inr (.inl fun _ => 0))) :: ((v0 3, .inl (X.2.2.1 1, 20, .inr (.inl fun _ => 0))) :: [])))))) rfl ?_
  refine cn_aload 16 0 dX4_init_15 rfl rfl ?_
  refine cn_iconst 17 (3) dX4_init_16 rfl (by decide) ?_
  refine cn_newI 19 3 ka_int dX4_init_17 rfl (by decide) (by decide) (Nat.le_of_ble_eq_true rfl) (Nat.le_of_ble_eq_true rfl) (Nat.le_of_ble_eq_true rfl) (fun q1 => ?_)
  refine cn_eqw (ws' := ((h0, .inr (4, [.ref (v0 0), .null])) :: ((v0 0, .inl (X.2.2.1 6, 3, .inr (.inr (.inr (.inr (va_up (va_up (va_up (fun _ => none) 0 (some (v0 1))) 1 (some (v0 2))) 2 (some (v0 3)))))))) :: ((v0 1, .inl (X.2.2.1 1, 20, .inr (.inl fun _ => 0))) :: ((v0 2, .inl (X.2.2.1 1, 20, .inr (.inl fun _ => 0))) :: ((v0 3, .inl (X.2.2.1 1, 20, .inr (.inl fun _ => 0))) :: ((q1, .inl (X.2.2.1 0, 3, .inl fun _ => 0)) :: []))))))) rfl ?_
  refine cn_putF 22 0 cp_RX4_16 rfl rfl rfl rfl (Nat.le_of_ble_eq_true rfl) dX4_init_19 rfl ?_
  refine cn_eqw (ws' := ((h0, .inr (4, [.ref (v0 0), .ref q1])) :: ((v0 0, .inl (X.2.2.1 6, 3, .inr (.inr (.inr (.inr (va_up (va_up (va_up (fun _ => none) 0 (some (v0 1))) 1 (some (v0 2))) 2 (some (v0 3)))))))) :: ((v0 1, .inl (X.2.2.1 1, 20, .inr (.inl fun _ => 0))) :: ((v0 2, .inl (X.2.2.1 1, 20, .inr (.inl fun _ => 0))) :: ((v0 3, .inl (X.2.2.1 1, 20, .inr (.inl fun _ => 0))) :: ((q1, .inl (X.2.2.1 0, 3, .inl fun _ => 0)) :: []))))))) rfl ?_
  refine cn_aload 23 0 dX4_init_22 rfl rfl ?_
  refine cn_get 26 0 gf_RX4_16 rfl rfl dX4_init_23 rfl ?_
  refine cn_iconst 27 (-1) dX4_init_26 rfl (by decide) ?_
  refine cn_eqw (ws' := (((h0, .inr (4, [.ref (v0 0), .ref q1])) :: ((v0 0, .inl (X.2.2.1 6, 3, .inr (.inr (.inr (.inr (va_up (va_up (va_up (fun _ => none) 0 (some (v0 1))) 1 (some (v0 2))) 2 (some (v0 3)))))))) :: ((v0 1, .inl (X.2.2.1 1, 20, .inr (.inl fun _ => 0))) :: ((v0 2, .inl (X.2.2.1 1, 20, .inr (.inl fun _ => 0))) :: ((v0 3, .inl (X.2.2.1 1, 20, .inr (.inl fun _ => 0))) :: [])))))) ++ [(q1, .inl (X.2.2.1 0, 3, .inl fun _ => 0))]) rfl ?_
  refine cn_fill 30 (by decide) lk_RX4_20 dX4_init_27 rfl (Nat.le_of_ble_eq_true rfl) (Nat.le_of_ble_eq_true rfl) (Nat.le_of_ble_eq_true rfl) ?_
  refine cn_eqw (ws' := ((h0, .inr (4, [.ref (v0 0), .ref q1])) :: ((v0 0, .inl (X.2.2.1 6, 3, .inr (.inr (.inr (.inr (va_up (va_up (va_up (fun _ => none) 0 (some (v0 1))) 1 (some (v0 2))) 2 (some (v0 3)))))))) :: ((v0 1, .inl (X.2.2.1 1, 20, .inr (.inl fun _ => 0))) :: ((v0 2, .inl (X.2.2.1 1, 20, .inr (.inl fun _ => 0))) :: ((v0 3, .inl (X.2.2.1 1, 20, .inr (.inl fun _ => 0))) :: ((q1, .inl (X.2.2.1 0, 3, .inl fun j => if j < 3 then -1 else 0)) :: []))))))) rfl ?_
  exact cn_ret (fun j => [h0, v0 0, v0 1, v0 2, v0 3, q1].getD j 0) dX4_init_30 rfl rfl rfl (Nat.le_refl _) (Nat.le_refl _)
theorem kX3 {X : sw_X} {l : Launch} {d : Nat} (h0 : Nat) : cn_ct X l (d + 2) mX3_init [.ref h0] [(h0, .inr (3, [.null, .null, .null]))] (cw_3 X) h0 14 45 := by
  refine cn_ct_of (by decide +kernel) (Nat.le_of_ble_eq_true rfl) rfl (fun sz => ?_)
  refine cn_aload 1 0 dX3_init_0 rfl rfl ?_
  refine cn_obj 4 kI_RX3_3 ko_ins ko_cod dX3_init_1 rfl ?_
  refine cn_aload 5 0 dX3_init_4 rfl rfl ?_
  refine cn_new 8 cf_1 kC_RX3_9 kt_1 kn_RX1 [.null, .null, .int 0] (fun j hj => by rcases (show j = 0 ∨ j = 1 ∨ j = 2 by omega) with rfl | rfl | rfl <;> rfl) dX3_init_5 rfl (Nat.le_of_ble_eq_true rfl) (Nat.le_of_ble_eq_true rfl) (fun q0 => ?_)
  refine cn_dup 9 dX3_init_8 rfl rfl ?_
  refine cn_ctor (y2 := mX1_init) (np := 0) (As := []) 12 (Or.inr ⟨RX11, List.mem_of_getElem? (i := 0) rfl⟩) kn_RX1 ki_X1_init kc_X1_init rfl rfl ⟨by decide +kernel, by decide +kernel, by decide +kernel⟩ (by decide) (kX1 _) rfl rfl (Nat.le_of_ble_eq_true rfl) dX3_init_9 rfl (Nat.le_of_ble_eq_true rfl) (Nat.le_of_ble_eq_true rfl) (fun u1 hu1 => ?_)
  subst hu1
  refine cn_eqw (ws' := ((h0, .inr (3, [.null, .null, .null])) :: cw_1 X u1)) rfl ?_
  refine cn_putF 15 0 cp_RX3_12 rfl rfl rfl rfl (Nat.le_of_ble_eq_true rfl) dX3_init_12 rfl ?_
  refine cn_eqw (ws' := ((h0, .inr (3, [.ref (u1 0), .null, .null])) :: cw_1 X u1)) rfl ?_
  refine cn_aload 16 0 dX3_init_15 rfl rfl ?_
  refine cn_iconst 17 (4) dX3_init_16 rfl (by decide) ?_
  refine cn_newQ 20 3 4 RX10 rfl (fun _ hK => hK.2.1.1) kC_RX3_18 dX3_init_17 rfl (by decide) (by decide) (Nat.le_of_ble_eq_true rfl) (Nat.le_of_ble_eq_true rfl) (Nat.le_of_ble_eq_true rfl) (fun q2 => ?_)
  refine cn_eqw (ws' := ((h0, .inr (3, [.ref (u1 0), .null, .null])) :: (cw_1 X u1 ++ ((q2, .inl (X.2.2.1 3, 4, .inr (.inr (.inr (.inr (fun _ => none)))))) :: [])))) rfl ?_
  refine cn_putF 23 0 cp_RX3_20 rfl rfl rfl rfl (Nat.le_of_ble_eq_true rfl) dX3_init_20 rfl ?_
  refine cn_eqw (ws' := ((h0, .inr (3, [.ref (u1 0), .ref q2, .null])) :: (cw_1 X u1 ++ ((q2, .inl (X.2.2.1 3, 4, .inr (.inr (.inr (.inr (fun _ => none)))))) :: [])))) rfl ?_
  refine cn_aload 24 0 dX3_init_23 rfl rfl ?_
  refine cn_new 27 cf_7 kC_RX3_24 kt_7 kn_RX7 [.null, .int 0] (fun j hj => by rcases (show j = 0 ∨ j = 1 by omega) with rfl | rfl <;> rfl) dX3_init_24 rfl (Nat.le_of_ble_eq_true rfl) (Nat.le_of_ble_eq_true rfl) (fun q3 => ?_)
  refine cn_dup 28 dX3_init_27 rfl rfl ?_
  refine cn_ctor (y2 := mX7_init) (np := 0) (As := []) 31 (Or.inr ⟨RX11, List.mem_of_getElem? (i := 1) rfl⟩) kn_RX7 ki_X7_init kc_X7_init rfl rfl ⟨by decide +kernel, by decide +kernel, by decide +kernel⟩ (by decide) (kX7 _) rfl rfl (Nat.le_of_ble_eq_true rfl) dX3_init_28 rfl (Nat.le_of_ble_eq_true rfl) (Nat.le_of_ble_eq_true rfl) (fun u4 hu4 => ?_)
  subst hu4
  refine cn_eqw (ws' := ((h0, .inr (3, [.ref (u1 0), .ref q2, .null])) :: (cw_1 X u1 ++ ((q2, .inl (X.2.2.1 3, 4, .inr (.inr (.inr (.inr (fun _ => none)))))) :: cw_7 X u4)))) rfl ?_
  refine cn_putF 34 0 cp_RX3_27 rfl rfl rfl rfl (Nat.le_of_ble_eq_true rfl) dX3_init_31 rfl ?_
  refine cn_eqw (ws' := ((h0, .inr (3, [.ref (u1 0), .ref q2, .ref (u4 0)])) :: (cw_1 X u1 ++ ((q2, .inl (X.2.2.1 3, 4, .inr (.inr (.inr (.inr (fun _ => none)))))) :: cw_7 X u4)))) rfl ?_
  refine cn_iconst 35 (0) dX3_init_34 rfl (by decide) ?_
  refine cn_istore (lc' := [(1, .int 0), (0, .ref h0)]) 36 dX3_init_35 rfl (by decide) rfl ?_
  refine cn_iload 37 0 dX3_init_36 rfl rfl ?_
  refine cn_iconst 38 (4) dX3_init_37 rfl (by decide) ?_
  refine cn_geF (tgt := 60) 41 dX3_init_38 (by decide) rfl (by decide) ?_
  refine cn_aload 42 1 dX3_init_41 rfl rfl ?_
  refine cn_get 45 0 gf_RX3_20 rfl rfl dX3_init_42 rfl ?_
  refine cn_iload 46 0 dX3_init_45 rfl rfl ?_
  refine cn_new 49 cf_10 kC_RX3_18 kt_10 kn_RX10 [.null, .int 0] (fun j hj => by rcases (show j = 0 ∨ j = 1 by omega) with rfl | rfl <;> rfl) dX3_init_46 rfl (Nat.le_of_ble_eq_true rfl) (Nat.le_of_ble_eq_true rfl) (fun q5 => ?_)
  refine cn_dup 50 dX3_init_49 rfl rfl ?_
  refine cn_ctor (y2 := mX10_init) (np := 0) (As := []) 53 (Or.inr ⟨RX11, List.mem_of_getElem? (i := 2) rfl⟩) kn_RX10 ki_X10_init kc_X10_init rfl rfl ⟨by decide +kernel, by decide +kernel, by decide +kernel⟩ (by decide) (kX10 _) rfl rfl (Nat.le_of_ble_eq_true rfl) dX3_init_50 rfl (Nat.le_of_ble_eq_true rfl) (Nat.le_of_ble_eq_true rfl) (fun u6 hu6 => ?_)
  subst hu6
  refine cn_eqw (ws' := ((h0, .inr (3, [.ref (u1 0), .ref q2, .ref (u4 0)])) :: (cw_1 X u1 ++ ((q2, .inl (X.2.2.1 3, 4, .inr (.inr (.inr (.inr (fun _ => none)))))) :: (cw_7 X u4 ++ cw_10 X u6))))) rfl ?_
  refine cn_astq (r := (RX10, TX10, 2)) (ci := 10) 54 4 3 7 rfl rfl rfl rfl (by unfold vp_in; decide) dX3_init_53 rfl ?_
  refine cn_eqw (ws' := ((h0, .inr (3, [.ref (u1 0), .ref q2, .ref (u4 0)])) :: (cw_1 X u1 ++ ((q2, .inl (X.2.2.1 3, 4, .inr (.inr (.inr (.inr (va_up (fun _ => none) 0 (some (u6 0)))))))) :: (cw_7 X u4 ++ cw_10 X u6))))) rfl ?_
  refine cn_iinc (v := 1) (lc' := [(1, .int 1), (0, .ref h0)]) 57 0 dX3_init_54 rfl rfl (by decide) (by decide) rfl ?_
  refine cn_goto 36 dX3_init_57 (by decide) ?_
  refine cn_iload 37 0 dX3_init_36 rfl rfl ?_
  refine cn_iconst 38 (4) dX3_init_37 rfl (by decide) ?_
  refine cn_geF (tgt := 60) 41 dX3_init_38 (by decide) rfl (by decide) ?_
  refine cn_aload 42 1 dX3_init_41 rfl rfl ?_
  refine cn_get 45 0 gf_RX3_20 rfl rfl dX3_init_42 rfl ?_
  refine cn_iload 46 0 dX3_init_45 rfl rfl ?_
  refine cn_new 49 cf_10 kC_RX3_18 kt_10 kn_RX10 [.null, .int 0] (fun j hj => by rcases (show j = 0 ∨ j = 1 by omega) with rfl | rfl <;> rfl) dX3_init_46 rfl (Nat.le_of_ble_eq_true rfl) (Nat.le_of_ble_eq_true rfl) (fun q7 => ?_)
  refine cn_dup 50 dX3_init_49 rfl rfl ?_
  refine cn_ctor (y2 := mX10_init) (np := 0) (As := []) 53 (Or.inr ⟨RX11, List.mem_of_getElem? (i := 2) rfl⟩) kn_RX10 ki_X10_init kc_X10_init rfl rfl ⟨by decide +kernel, by decide +kernel, by decide +kernel⟩ (by decide) (kX10 _) rfl rfl (Nat.le_of_ble_eq_true rfl) dX3_init_50 rfl (Nat.le_of_ble_eq_true rfl) (Nat.le_of_ble_eq_true rfl) (fun u8 hu8 => ?_)
  subst hu8
  refine cn_eqw (ws' := ((h0, .inr (3, [.ref (u1 0), .ref q2, .ref (u4 0)])) :: (cw_1 X u1 ++ ((q2, .inl (X.2.2.1 3, 4, .inr (.inr (.inr (.inr (va_up (fun _ => none) 0 (some (u6 0)))))))) :: (cw_7 X u4 ++ (cw_10 X u6 ++ cw_10 X u8)))))) rfl ?_
  refine cn_astq (r := (RX10, TX10, 2)) (ci := 10) 54 4 3 9 rfl rfl rfl rfl (by unfold vp_in; decide) dX3_init_53 rfl ?_
  refine cn_eqw (ws' := ((h0, .inr (3, [.ref (u1 0), .ref q2, .ref (u4 0)])) :: (cw_1 X u1 ++ ((q2, .inl (X.2.2.1 3, 4, .inr (.inr (.inr (.inr (va_up (va_up (fun _ => none) 0 (some (u6 0))) 1 (some (u8 0)))))))) :: (cw_7 X u4 ++ (cw_10 X u6 ++ cw_10 X u8)))))) rfl ?_
  refine cn_iinc (v := 2) (lc' := [(1, .int 2), (0, .ref h0)]) 57 0 dX3_init_54 rfl rfl (by decide) (by decide) rfl ?_
  refine cn_goto 36 dX3_init_57 (by decide) ?_
  refine cn_iload 37 0 dX3_init_36 rfl rfl ?_
  refine cn_iconst 38 (4) dX3_init_37 rfl (by decide) ?_
  refine cn_geF (tgt := 60) 41 dX3_init_38 (by decide) rfl (by decide) ?_
  refine cn_aload 42 1 dX3_init_41 rfl rfl ?_
  refine cn_get 45 0 gf_RX3_20 rfl rfl dX3_init_42 rfl ?_
  refine cn_iload 46 0 dX3_init_45 rfl rfl ?_
  refine cn_new 49 cf_10 kC_RX3_18 kt_10 kn_RX10 [.null, .int 0] (fun j hj => by rcases (show j = 0 ∨ j = 1 by omega) with rfl | rfl <;> rfl) dX3_init_46 rfl (Nat.le_of_ble_eq_true rfl) (Nat.le_of_ble_eq_true rfl) (fun q9 => ?_)
  refine cn_dup 50 dX3_init_49 rfl rfl ?_
  refine cn_ctor (y2 := mX10_init) (np := 0) (As := []) 53 (Or.inr ⟨RX11, List.mem_of_getElem? (i := 2) rfl⟩) kn_RX10 ki_X10_init kc_X10_init rfl rfl ⟨by decide +kernel, by decide +kernel, by decide +kernel⟩ (by decide) (kX10 _) rfl rfl (Nat.le_of_ble_eq_true rfl) dX3_init_50 rfl (Nat.le_of_ble_eq_true rfl) (Nat.le_of_ble_eq_true rfl) (fun u10 hu10 => ?_)
  subst hu10
  refine cn_eqw (ws' := ((h0, .inr (3, [.ref (u1 0), .ref q2, .ref (u4 0)])) :: (cw_1 X u1 ++ ((q2, .inl (X.2.2.1 3, 4, .inr (.inr (.inr (.inr (va_up (va_up (fun _ => none) 0 (some (u6 0))) 1 (some (u8 0)))))))) :: (cw_7 X u4 ++ (cw_10 X u6 ++ (cw_10 X u8 ++ cw_10 X u10))))))) rfl ?_
  refine cn_astq (r := (RX10, TX10, 2)) (ci := 10) 54 4 3 11 rfl rfl rfl rfl (by unfold vp_in; decide) dX3_init_53 rfl ?_
  refine cn_eqw (ws' := ((h0, .inr (3, [.ref (u1 0), .ref q2, .ref (u4 0)])) :: (cw_1 X u1 ++ ((q2, .inl (X.2.2.1 3, 4, .inr (.inr (.inr (.inr (va_up (va_up (va_up (fun _ => none) 0 (some (u6 0))) 1 (some (u8 0))) 2 (some (u10 0)))))))) :: (cw_7 X u4 ++ (cw_10 X u6 ++ (cw_10 X u8 ++ cw_10 X u10))))))) rfl ?_
  refine cn_iinc (v := 3) (lc' := [(1, .int 3), (0, .ref h0)]) 57 0 dX3_init_54 rfl rfl (by decide) (by decide) rfl ?_
  refine cn_goto 36 dX3_init_57 (by decide) ?_
  refine cn_iload 37 0 dX3_init_36 rfl rfl ?_
  refine cn_iconst 38 (4) dX3_init_37 rfl (by decide) ?_
  refine cn_geF (tgt := 60) 41 dX3_init_38 (by decide) rfl (by decide) ?_
  refine cn_aload 42 1 dX3_init_41 rfl rfl ?_
  refine cn_get 45 0 gf_RX3_20 rfl rfl dX3_init_42 rfl ?_
  refine cn_iload 46 0 dX3_init_45 rfl rfl ?_
  refine cn_new 49 cf_10 kC_RX3_18 kt_10 kn_RX10 [.null, .int 0] (fun j hj => by rcases (show j = 0 ∨ j = 1 by omega) with rfl | rfl <;> rfl) dX3_init_46 rfl (Nat.le_of_ble_eq_true rfl) (Nat.le_of_ble_eq_true rfl) (fun q11 => ?_)
  refine cn_dup 50 dX3_init_49 rfl rfl ?_
  refine cn_ctor (y2 := mX10_init) (np := 0) (As := []) 53 (Or.inr ⟨RX11, List.mem_of_getElem? (i := 2) rfl⟩) kn_RX10 ki_X10_init kc_X10_init rfl rfl ⟨by decide +kernel, by decide +kernel, by decide +kernel⟩ (by decide) (kX10 _) rfl rfl (Nat.le_of_ble_eq_true rfl) dX3_init_50 rfl (Nat.le_of_ble_eq_true rfl) (Nat.le_of_ble_eq_true rfl) (fun u12 hu12 => ?_)
  subst hu12
  refine cn_eqw (ws' := ((h0, .inr (3, [.ref (u1 0), .ref q2, .ref (u4 0)])) :: (cw_1 X u1 ++ ((q2, .inl (X.2.2.1 3, 4, .inr (.inr (.inr (.inr (va_up (va_up (va_up (fun _ => none) 0 (some (u6 0))) 1 (some (u8 0))) 2 (some (u10 0)))))))) :: (cw_7 X u4 ++ (cw_10 X u6 ++ (cw_10 X u8 ++ (cw_10 X u10 ++ cw_10 X u12)))))))) rfl ?_
  refine cn_astq (r := (RX10, TX10, 2)) (ci := 10) 54 4 3 13 rfl rfl rfl rfl (by unfold vp_in; decide) dX3_init_53 rfl ?_
  refine cn_eqw (ws' := ((h0, .inr (3, [.ref (u1 0), .ref q2, .ref (u4 0)])) :: (cw_1 X u1 ++ ((q2, .inl (X.2.2.1 3, 4, .inr (.inr (.inr (.inr (va_up (va_up (va_up (va_up (fun _ => none) 0 (some (u6 0))) 1 (some (u8 0))) 2 (some (u10 0))) 3 (some (u12 0)))))))) :: (cw_7 X u4 ++ (cw_10 X u6 ++ (cw_10 X u8 ++ (cw_10 X u10 ++ cw_10 X u12)))))))) rfl ?_
  refine cn_iinc (v := 4) (lc' := [(1, .int 4), (0, .ref h0)]) 57 0 dX3_init_54 rfl rfl (by decide) (by decide) rfl ?_
  refine cn_goto 36 dX3_init_57 (by decide) ?_
  refine cn_iload 37 0 dX3_init_36 rfl rfl ?_
  refine cn_iconst 38 (4) dX3_init_37 rfl (by decide) ?_
  refine cn_geT 60 dX3_init_38 (by decide) (by decide) ?_
  exact cn_ret (fun j => [h0, u1 0, u1 1, u1 2, q2, u4 0, u4 1, u6 0, u6 1, u8 0, u8 1, u10 0, u10 1, u12 0, u12 1].getD j 0) dX3_init_60 rfl rfl rfl (Nat.le_refl _) (Nat.le_refl _)
theorem kX8 {X : sw_X} {l : Launch} {d : Nat} (h0 : Nat) : cn_ct X l (d + 2) mX8_init [.ref h0] [(h0, .inr (8, [.null, .null, .int 0]))] (cw_8 X) h0 19 821 := by
  refine cn_ct_of (by decide +kernel) (Nat.le_of_ble_eq_true rfl) rfl (fun sz => ?_)
  refine cn_aload 1 0 dX8_init_0 rfl rfl ?_
  refine cn_obj 4 kI_RX8_3 ko_ins ko_cod dX8_init_1 rfl ?_
  refine cn_aload 5 0 dX8_init_4 rfl rfl ?_
  refine cn_iconst 6 (4) dX8_init_5 rfl (by decide) ?_
  refine cn_newQ 9 4 4 RX5 rfl (fun _ hK => hK.2.1.2) kC_RX8_9 dX8_init_6 rfl (by decide) (by decide) (Nat.le_of_ble_eq_true rfl) (Nat.le_of_ble_eq_true rfl) (Nat.le_of_ble_eq_true rfl) (fun q0 => ?_)
  refine cn_eqw (ws' := ((h0, .inr (8, [.null, .null, .int 0])) :: ((q0, .inl (X.2.2.1 4, 4, .inr (.inr (.inr (.inr (fun _ => none)))))) :: []))) rfl ?_
  refine cn_putF 12 0 cp_RX8_11 rfl rfl rfl rfl (Nat.le_of_ble_eq_true rfl) dX8_init_9 rfl ?_
  refine cn_eqw (ws' := ((h0, .inr (8, [.ref q0, .null, .int 0])) :: ((q0, .inl (X.2.2.1 4, 4, .inr (.inr (.inr (.inr (fun _ => none)))))) :: []))) rfl ?_
  refine cn_aload 13 0 dX8_init_12 rfl rfl ?_
  refine cn_iconst 14 (5) dX8_init_13 rfl (by decide) ?_
  refine cn_iconst 15 (4) dX8_init_14 rfl (by decide) ?_
  refine cn_multi (ty := .int) 19 5 0 5 4 (4, .inl fun _ => 0) rfl rfl (fun _ _ h => h) (fun _ => rfl) (fun _ hK => hK.2.2.1.1) kC_RX8_17 ka_int dX8_init_15 rfl (by decide) (by decide) (by decide) (by decide) (Nat.le_of_ble_eq_true rfl) (Nat.le_of_ble_eq_true rfl) (Nat.le_of_ble_eq_true rfl) rfl (Nat.le_of_ble_eq_true rfl) (Nat.le_of_ble_eq_true rfl) (fun v1 => ?_)
  refine cn_eqw (ws' := ((h0, .inr (8, [.ref q0, .null, .int 0])) :: ((q0, .inl (X.2.2.1 4, 4, .inr (.inr (.inr (.inr (fun _ => none)))))) :: ((v1 0, .inl (X.2.2.1 5, 5, .inr (.inr (.inr (.inr fun j => some (v1 (1 + j))))))) :: ((v1 1, .inl (X.2.2.1 0, 4, .inl fun _ => 0)) :: ((v1 2, .inl (X.2.2.1 0, 4, .inl fun _ => 0)) :: ((v1 3, .inl (X.2.2.1 0, 4, .inl fun _ => 0)) :: ((v1 4, .inl (X.2.2.1 0, 4, .inl fun _ => 0)) :: ((v1 5, .inl (X.2.2.1 0, 4, .inl fun _ => 0)) :: []))))))))) rfl ?_
  refine cn_eqR 2 (va_up (va_up (va_up (va_up (va_up (fun _ => none) 0 (some (v1 1))) 1 (some (v1 2))) 2 (some (v1 3))) 3 (some (v1 4))) 4 (some (v1 5))) rfl (fun j hj => by rcases (show j = 0 ∨ j = 1 ∨ j = 2 ∨ j = 3 ∨ j = 4 by omega) with rfl | rfl | rfl | rfl | rfl <;> rfl) ?_
  refine cn_eqw (ws' := ((h0, .inr (8, [.ref q0, .null, .int 0])) :: ((q0, .inl (X.2.2.1 4, 4, .inr (.inr (.inr (.inr (fun _ => none)))))) :: ((v1 0, .inl (X.2.2.1 5, 5, .inr (.inr (.inr (.inr (va_up (va_up (va_up (va_up (va_up (fun _ => none) 0 (some (v1 1))) 1 (some (v1 2))) 2 (some (v1 3))) 3 (some (v1 4))) 4 (some (v1 5)))))))) :: ((v1 1, .inl (X.2.2.1 0, 4, .inl fun _ => 0)) :: ((v1 2, .inl (X.2.2.1 0, 4, .inl fun _ => 0)) :: ((v1 3, .inl (X.2.2.1 0, 4, .inl fun _ => 0)) :: ((v1 4, .inl (X.2.2.1 0, 4, .inl fun _ => 0)) :: ((v1 5, .inl (X.2.2.1 0, 4, .inl fun _ => 0)) :: []))))))))) rfl ?_
  refine cn_putF 22 0 cp_RX8_19 rfl rfl rfl rfl (Nat.le_of_ble_eq_true rfl) dX8_init_19 rfl ?_
  refine cn_eqw (ws' := ((h0, .inr (8, [.ref q0, .ref (v1 0), .int 0])) :: ((q0, .inl (X.2.2.1 4, 4, .inr (.inr (.inr (.inr (fun _ => none)))))) :: ((v1 0, .inl (X.2.2.1 5, 5, .inr (.inr (.inr (.inr (va_up (va_up (va_up (va_up (va_up (fun _ => none) 0 (some (v1 1))) 1 (some (v1 2))) 2 (some (v1 3))) 3 (some (v1 4))) 4 (some (v1 5)))))))) :: ((v1 1, .inl (X.2.2.1 0, 4, .inl fun _ => 0)) :: ((v1 2, .inl (X.2.2.1 0, 4, .inl fun _ => 0)) :: ((v1 3, .inl (X.2.2.1 0, 4, .inl fun _ => 0)) :: ((v1 4, .inl (X.2.2.1 0, 4, .inl fun _ => 0)) :: ((v1 5, .inl (X.2.2.1 0, 4, .inl fun _ => 0)) :: []))))))))) rfl ?_
  refine cn_iconst 23 (0) dX8_init_22 rfl (by decide) ?_
  refine cn_istore (lc' := [(1, .int 0), (0, .ref h0)]) 24 dX8_init_23 rfl (by decide) rfl ?_
  refine cn_iload 25 0 dX8_init_24 rfl rfl ?_
  refine cn_iconst 26 (4) dX8_init_25 rfl (by decide) ?_
  refine cn_geF (tgt := 48) 29 dX8_init_26 (by decide) rfl (by decide) ?_
  refine cn_aload 30 1 dX8_init_29 rfl rfl ?_
  refine cn_get 33 0 gf_RX8_11 rfl rfl dX8_init_30 rfl ?_
  refine cn_iload 34 0 dX8_init_33 rfl rfl ?_
  refine cn_new 37 cf_5 kC_RX8_9 kt_5 kn_RX5 [.null, .null, .int 0, .int 0] (fun j hj => by rcases (show j = 0 ∨ j = 1 ∨ j = 2 ∨ j = 3 by omega) with rfl | rfl | rfl | rfl <;> rfl) dX8_init_34 rfl (Nat.le_of_ble_eq_true rfl) (Nat.le_of_ble_eq_true rfl) (fun q2 => ?_)
  refine cn_dup 38 dX8_init_37 rfl rfl ?_
  refine cn_ctor (y2 := mX5_init) (np := 0) (As := []) 41 (Or.inr ⟨RX11, List.mem_of_getElem? (i := 5) rfl⟩) kn_RX5 ki_X5_init kc_X5_init rfl rfl ⟨by decide +kernel, by decide +kernel, by decide +kernel⟩ (by decide) (kX5 _) rfl rfl (Nat.le_of_ble_eq_true rfl) dX8_init_38 rfl (Nat.le_of_ble_eq_true rfl) (Nat.le_of_ble_eq_true rfl) (fun u3 hu3 => ?_)
  subst hu3
  refine cn_eqw (ws' := ((h0, .inr (8, [.ref q0, .ref (v1 0), .int 0])) :: ((q0, .inl (X.2.2.1 4, 4, .inr (.inr (.inr (.inr (fun _ => none)))))) :: ((v1 0, .inl (X.2.2.1 5, 5, .inr (.inr (.inr (.inr (va_up (va_up (va_up (va_up (va_up (fun _ => none) 0 (some (v1 1))) 1 (some (v1 2))) 2 (some (v1 3))) 3 (some (v1 4))) 4 (some (v1 5)))))))) :: ((v1 1, .inl (X.2.2.1 0, 4, .inl fun _ => 0)) :: ((v1 2, .inl (X.2.2.1 0, 4, .inl fun _ => 0)) :: ((v1 3, .inl (X.2.2.1 0, 4, .inl fun _ => 0)) :: ((v1 4, .inl (X.2.2.1 0, 4, .inl fun _ => 0)) :: ((v1 5, .inl (X.2.2.1 0, 4, .inl fun _ => 0)) :: cw_5 X u3))))))))) rfl ?_
  refine cn_astq (r := (RX5, TX5, 4)) (ci := 5) 42 1 4 8 rfl rfl rfl rfl (by unfold vp_in; decide) dX8_init_41 rfl ?_
  refine cn_eqw (ws' := ((h0, .inr (8, [.ref q0, .ref (v1 0), .int 0])) :: ((q0, .inl (X.2.2.1 4, 4, .inr (.inr (.inr (.inr (va_up (fun _ => none) 0 (some (u3 0)))))))) :: ((v1 0, .inl (X.2.2.1 5, 5, .inr (.inr (.inr (.inr (va_up (va_up (va_up (va_up (va_up (fun _ => none) 0 (some (v1 1))) 1 (some (v1 2))) 2 (some (v1 3))) 3 (some (v1 4))) 4 (some (v1 5)))))))) :: ((v1 1, .inl (X.2.2.1 0, 4, .inl fun _ => 0)) :: ((v1 2, .inl (X.2.2.1 0, 4, .inl fun _ => 0)) :: ((v1 3, .inl (X.2.2.1 0, 4, .inl fun _ => 0)) :: ((v1 4, .inl (X.2.2.1 0, 4, .inl fun _ => 0)) :: ((v1 5, .inl (X.2.2.1 0, 4, .inl fun _ => 0)) :: cw_5 X u3))))))))) rfl ?_
  refine cn_iinc (v := 1) (lc' := [(1, .int 1), (0, .ref h0)]) 45 0 dX8_init_42 rfl rfl (by decide) (by decide) rfl ?_
  refine cn_goto 24 dX8_init_45 (by decide) ?_
  refine cn_iload 25 0 dX8_init_24 rfl rfl ?_
  refine cn_iconst 26 (4) dX8_init_25 rfl (by decide) ?_
  refine cn_geF (tgt := 48) 29 dX8_init_26 (by decide) rfl (by decide) ?_
  refine cn_aload 30 1 dX8_init_29 rfl rfl ?_
  refine cn_get 33 0 gf_RX8_11 rfl rfl dX8_init_30 rfl ?_
  refine cn_iload 34 0 dX8_init_33 rfl rfl ?_
  refine cn_new 37 cf_5 kC_RX8_9 kt_5 kn_RX5 [.null, .null, .int 0, .int 0] (fun j hj => by rcases (show j = 0 ∨ j = 1 ∨ j = 2 ∨ j = 3 by omega) with rfl | rfl | rfl | rfl <;> rfl) dX8_init_34 rfl (Nat.le_of_ble_eq_true rfl) (Nat.le_of_ble_eq_true rfl) (fun q4 => ?_)
  refine cn_dup 38 dX8_init_37 rfl rfl ?_
  refine cn_ctor (y2 := mX5_init) (np := 0) (As := []) 41 (Or.inr ⟨RX11, List.mem_of_getElem? (i := 5) rfl⟩) kn_RX5 ki_X5_init kc_X5_init rfl rfl ⟨by decide +kernel, by decide +kernel, by decide +kernel⟩ (by decide) (kX5 _) rfl rfl (Nat.le_of_ble_eq_true rfl) dX8_init_38 rfl (Nat.le_of_ble_eq_true rfl) (Nat.le_of_ble_eq_true rfl) (fun u5 hu5 => ?_)
  subst hu5
  refine cn_eqw (ws' := ((h0, .inr (8, [.ref q0, .ref (v1 0), .int 0])) :: ((q0, .inl (X.2.2.1 4, 4, .inr (.inr (.inr (.inr (va_up (fun _ => none) 0 (some (u3 0)))))))) :: ((v1 0, .inl (X.2.2.1 5, 5, .inr (.inr (.inr (.inr (va_up (va_up (va_up (va_up (va_up (fun _ => none) 0 (some (v1 1))) 1 (some (v1 2))) 2 (some (v1 3))) 3 (some (v1 4))) 4 (some (v1 5)))))))) :: ((v1 1, .inl (X.2.2.1 0, 4, .inl fun _ => 0)) :: ((v1 2, .inl (X.2.2.1 0, 4, .inl fun _ => 0)) :: ((v1 3, .inl (X.2.2.1 0, 4, .inl fun _ => 0)) :: ((v1 4, .inl (X.2.2.1 0, 4, .inl fun _ => 0)) :: ((v1 5, .inl (X.2.2.1 0, 4, .inl fun _ => 0)) :: (cw_5 X u3 ++ cw_5 X u5)))))))))) rfl ?_
  refine cn_astq (r := (RX5, TX5, 4)) (ci := 5) 42 1 4 11 rfl rfl rfl rfl (by unfold vp_in; decide) dX8_init_41 rfl ?_
  refine cn_eqw (ws' := ((h0, .inr (8, [.ref q0, .ref (v1 0), .int 0])) :: ((q0, .inl (X.2.2.1 4, 4, .inr (.inr (.inr (.inr (va_up (va_up (fun _ => none) 0 (some (u3 0))) 1 (some (u5 0)))))))) :: ((v1 0, .inl (X.2.2.1 5, 5, .inr (.inr (.inr (.inr (va_up (va_up (va_up (va_up (va_up (fun _ => none) 0 (some (v1 1))) 1 (some (v1 2))) 2 (some (v1 3))) 3 (some (v1 4))) 4 (some (v1 5)))))))) :: ((v1 1, .inl (X.2.2.1 0, 4, .inl fun _ => 0)) :: ((v1 2, .inl (X.2.2.1 0, 4, .inl fun _ => 0)) :: ((v1 3, .inl (X.2.2.1 0, 4, .inl fun _ => 0)) :: ((v1 4, .inl (X.2.2.1 0, 4, .inl fun _ => 0)) :: ((v1 5, .inl (X.2.2.1 0, 4, .inl fun _ => 0)) :: (cw_5 X u3 ++ cw_5 X u5)))))))))) rfl ?_
  refine cn_iinc (v := 2) (lc' := [(1, .int 2), (0, .ref h0)]) 45 0 dX8_init_42 rfl rfl (by decide) (by decide) rfl ?_
  refine cn_goto 24 dX8_init_45 (by decide) ?_
  refine cn_iload 25 0 dX8_init_24 rfl rfl ?_
  refine cn_iconst 26 (4) dX8_init_25 rfl (by decide) ?_
  refine cn_geF (tgt := 48) 29 dX8_init_26 (by decide) rfl (by decide) ?_
  refine cn_aload 30 1 dX8_init_29 rfl rfl ?_
  refine cn_get 33 0 gf_RX8_11 rfl rfl dX8_init_30 rfl ?_
  refine cn_iload 34 0 dX8_init_33 rfl rfl ?_
  refine cn_new 37 cf_5 kC_RX8_9 kt_5 kn_RX5 [.null, .null, .int 0, .int 0] (fun j hj => by rcases (show j = 0 ∨ j = 1 ∨ j = 2 ∨ j = 3 by omega) with rfl | rfl | rfl | rfl <;> rfl) dX8_init_34 rfl (Nat.le_of_ble_eq_true rfl) (Nat.le_of_ble_eq_true rfl) (fun q6 => ?_)
  refine cn_dup 38 dX8_init_37 rfl rfl ?_
  refine cn_ctor (y2 := mX5_init) (np := 0) (As := []) 41 (Or.inr ⟨RX11, List.mem_of_getElem? (i := 5) rfl⟩) kn_RX5 ki_X5_init kc_X5_init rfl rfl ⟨by decide +kernel, by decide +kernel, by decide +kernel⟩ (by decide) (kX5 _) rfl rfl (Nat.le_of_ble_eq_true rfl) dX8_init_38 rfl (Nat.le_of_ble_eq_true rfl) (Nat.le_of_ble_eq_true rfl) (fun u7 hu7 => ?_)
  subst hu7
  refine cn_eqw (ws' := ((h0, .inr (8, [.ref q0, .ref (v1 0), .int 0])) :: ((q0, .inl (X.2.2.1 4, 4, .inr (.inr (.inr (.inr (va_up (va_up (fun _ => none) 0 (some (u3 0))) 1 (some (u5 0)))))))) :: ((v1 0, .inl (X.2.2.1 5, 5, .inr (.inr (.inr (.inr (va_up (va_up (va_up (va_up (va_up (fun _ => none) 0 (some (v1 1))) 1 (some (v1 2))) 2 (some (v1 3))) 3 (some (v1 4))) 4 (some (v1 5)))))))) :: ((v1 1, .inl (X.2.2.1 0, 4, .inl fun _ => 0)) :: ((v1 2, .inl (X.2.2.1 0, 4, .inl fun _ => 0)) :: ((v1 3, .inl (X.2.2.1 0, 4, .inl fun _ => 0)) :: ((v1 4, .inl (X.2.2.1 0, 4, .inl fun _ => 0)) :: ((v1 5, .inl (X.2.2.1 0, 4, .inl fun _ => 0)) :: (cw_5 X u3 ++ (cw_5 X u5 ++ cw_5 X u7))))))))))) rfl ?_
  refine cn_astq (r := (RX5, TX5, 4)) (ci := 5) 42 1 4 14 rfl rfl rfl rfl (by unfold vp_in; decide) dX8_init_41 rfl ?_
  refine cn_eqw (ws' := ((h0, .inr (8, [.ref q0, .ref (v1 0), .int 0])) :: ((q0, .inl (X.2.2.1 4, 4, .inr (.inr (.inr (.inr (va_up (va_up (va_up (fun _ => none) 0 (some (u3 0))) 1 (some (u5 0))) 2 (some (u7 0)))))))) :: ((v1 0, .inl (X.2.2.1 5, 5, .inr (.inr (.inr (.inr (va_up (va_up (va_up (va_up (va_up (fun _ => none) 0 (some (v1 1))) 1 (some (v1 2))) 2 (some (v1 3))) 3 (some (v1 4))) 4 (some (v1 5)))))))) :: ((v1 1, .inl (X.2.2.1 0, 4, .inl fun _ => 0)) :: ((v1 2, .inl (X.2.2.1 0, 4, .inl fun _ => 0)) :: ((v1 3, .inl (X.2.2.1 0, 4, .inl fun _ => 0)) :: ((v1 4, .inl (X.2.2.1 0, 4, .inl fun _ => 0)) :: ((v1 5, .inl (X.2.2.1 0, 4, .inl fun _ => 0)) :: (cw_5 X u3 ++ (cw_5 X u5 ++ cw_5 X u7))))))))))) rfl ?_
  refine cn_iinc (v := 3) (lc' := [(1, .int 3), (0, .ref h0)]) 45 0 dX8_init_42 rfl rfl (by decide) (by decide) rfl ?_
  refine cn_goto 24 dX8_init_45 (by decide) ?_
  refine cn_iload 25 0 dX8_init_24 rfl rfl ?_
  refine cn_iconst 26 (4) dX8_init_25 rfl (by decide) ?_
  refine cn_geF (tgt := 48) 29 dX8_init_26 (by decide) rfl (by decide) ?_
  refine cn_aload 30 1 dX8_init_29 rfl rfl ?_
  refine cn_get 33 0 gf_RX8_11 rfl rfl dX8_init_30 rfl ?_
  refine cn_iload 34 0 dX8_init_33 rfl rfl ?_
  refine cn_new 37 cf_5 kC_RX8_9 kt_5 kn_RX5 [.null, .null, .int 0, .int 0] (fun j hj => by rcases (show j = 0 ∨ j = 1 ∨ j = 2 ∨ j = 3 by omega) with rfl | rfl | rfl | rfl <;> rfl) dX8_init_34 rfl (Nat.le_of_ble_eq_true rfl) (Nat.le_of_ble_eq_true rfl) (fun q8 => ?_)
  refine cn_dup 38 dX8_init_37 rfl rfl ?_
  refine cn_ctor (y2 := mX5_init) (np := 0) (As := []) 41 (Or.inr ⟨RX11, List.mem_of_getElem? (i := 5) rfl⟩) kn_RX5 ki_X5_init kc_X5_init rfl rfl ⟨by decide +kernel, by decide +kernel, by decide +kernel⟩ (by decide) (kX5 _) rfl rfl (Nat.le_of_ble_eq_true rfl) dX8_init_38 rfl (Nat.le_of_ble_eq_true rfl) (Nat.le_of_ble_eq_true rfl) (fun u9 hu9 => ?_)
  subst hu9
  refine cn_eqw (ws' := ((h0, .inr (8, [.ref q0, .ref (v1 0), .int 0])) :: ((q0, .inl (X.2.2.1 4, 4, .inr (.inr (.inr (.inr (va_up (va_up (va_up (fun _ => none) 0 (some (u3 0))) 1 (some (u5 0))) 2 (some (u7 0)))))))) :: ((v1 0, .inl (X.2.2.1 5, 5, .inr (.inr (.inr (.inr (va_up (va_up (va_up (va_up (va_up (fun _ => none) 0 (some (v1 1))) 1 (some (v1 2))) 2 (some (v1 3))) 3 (some (v1 4))) 4 (some (v1 5)))))))) :: ((v1 1, .inl (X.2.2.1 0, 4, .inl fun _ => 0)) :: ((v1 2, .inl (X.2.2.1 0, 4, .inl fun _ => 0)) :: ((v1 3, .inl (X.2.2.1 0, 4, .inl fun _ => 0)) :: ((v1 4, .inl (X.2.2.1 0, 4, .inl fun _ => 0)) :: ((v1 5, .inl (X.2.2.1 0, 4, .inl fun _ => 0)) :: (cw_5 X u3 ++ (cw_5 X u5 ++ (cw_5 X u7 ++ cw_5 X u9)))))))))))) rfl ?_
  refine cn_astq (r := (RX5, TX5, 4)) (ci := 5) 42 1 4 17 rfl rfl rfl rfl (by unfold vp_in; decide) dX8_init_41 rfl ?_
  refine cn_eqw (ws' := ((h0, .inr (8, [.ref q0, .ref (v1 0), .int 0])) :: ((q0, .inl (X.2.2.1 4, 4, .inr (.inr (.inr (.inr (va_up (va_up (va_up (va_up (fun _ => none) 0 (some (u3 0))) 1 (some (u5 0))) 2 (some (u7 0))) 3 (some (u9 0)))))))) :: ((v1 0, .inl (X.2.2.1 5, 5, .inr (.inr (.inr (.inr (va_up (va_up (va_up (va_up (va_up (fun _ => none) 0 (some (v1 1))) 1 (some (v1 2))) 2 (some (v1 3))) 3 (some (v1 4))) 4 (some (v1 5)))))))) :: ((v1 1, .inl (X.2.2.1 0, 4, .inl fun _ => 0)) :: ((v1 2, .inl (X.2.2.1 0, 4, .inl fun _ => 0)) :: ((v1 3, .inl (X.2.2.1 0, 4, .inl fun _ => 0)) :: ((v1 4, .inl (X.2.2.1 0, 4, .inl fun _ => 0)) :: ((v1 5, .inl (X.2.2.1 0, 4, .inl fun _ => 0)) :: (cw_5 X u3 ++ (cw_5 X u5 ++ (cw_5 X u7 ++ cw_5 X u9)))))))))))) rfl ?_
  refine cn_iinc (v := 4) (lc' := [(1, .int 4), (0, .ref h0)]) 45 0 dX8_init_42 rfl rfl (by decide) (by decide) rfl ?_
  refine cn_goto 24 dX8_init_45 (by decide) ?_
  refine cn_iload 25 0 dX8_init_24 rfl rfl ?_
  refine cn_iconst 26 (4) dX8_init_25 rfl (by decide) ?_
  refine cn_geT 48 dX8_init_26 (by decide) (by decide) ?_
  exact cn_ret (fun j => [h0, q0, v1 0, v1 1, v1 2, v1 3, v1 4, v1 5, u3 0, u3 1, u3 2, u5 0, u5 1, u5 2, u7 0, u7 1, u7 2, u9 0, u9 1, u9 2].getD j 0) dX8_init_48 rfl rfl rfl (Nat.le_refl _) (Nat.le_refl _)
