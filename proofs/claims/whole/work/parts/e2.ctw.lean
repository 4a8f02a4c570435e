/-! ===== words and rows of the constructors ===== -/
theorem zw_oi : Cond.instanceMethod Lib.objectInit ∈ wG := wG_at 29 (by decide +kernel) rfl
theorem zw_oc : Cond.code Lib.objectInit ⟨#[0xb1]⟩ 1 none ∈ wG := wG_at 30 (by decide +kernel) rfl
theorem zw_long : Cond.arrayClass .long ∈ wG := wG_at 73 (by decide +kernel) rfl
theorem zw_int : Cond.arrayClass .int ∈ wG := wG_at 1304 (by decide +kernel) rfl
theorem zw_byte : Cond.arrayClass .byte ∈ wG := wG_at 409 (by decide +kernel) rfl
theorem zo_RX3_3 : Cond.methodLink RX3 3 Lib.objectInit ∈ wG := wG_at 51 (by decide +kernel) rfl
theorem zf_RX3_9 : Cond.fieldLink RX3 9 RX3 (TX3 2).2.1 (TX3 2).2.2.1 ∈ wG := wG_at 61 (by decide +kernel) rfl
theorem zo_RX6_3 : Cond.methodLink RX6 3 Lib.objectInit ∈ wG := wG_at 238 (by decide +kernel) rfl
theorem zf_RX6_9 : Cond.fieldLink RX6 9 RX6 (TX6 8).2.1 (TX6 8).2.2.1 ∈ wG := wG_at 264 (by decide +kernel) rfl
theorem zf_RX6_15 : Cond.fieldLink RX6 15 RX6 (TX6 9).2.1 (TX6 9).2.2.1 ∈ wG := wG_at 266 (by decide +kernel) rfl
theorem zo_RX7_3 : Cond.methodLink RX7 3 Lib.objectInit ∈ wG := wG_at 353 (by decide +kernel) rfl
theorem zf_RX7_9 : Cond.fieldLink RX7 9 RX7 (TX7 0).2.1 (TX7 0).2.2.1 ∈ wG := wG_at 354 (by decide +kernel) rfl
theorem zo_RX8_3 : Cond.methodLink RX8 3 Lib.objectInit ∈ wG := wG_at 377 (by decide +kernel) rfl
theorem zf_RX8_9 : Cond.fieldLink RX8 9 RX8 (TX8 0).2.1 (TX8 0).2.2.1 ∈ wG := wG_at 378 (by decide +kernel) rfl
theorem zo_RX5_3 : Cond.methodLink RX5 3 Lib.objectInit ∈ wG := wG_at 415 (by decide +kernel) rfl
theorem zf_RX5_9 : Cond.fieldLink RX5 9 RX5 (TX5 0).2.1 (TX5 0).2.2.1 ∈ wG := wG_at 416 (by decide +kernel) rfl
theorem zf_RX5_15 : Cond.fieldLink RX5 15 RX5 (TX5 1).2.1 (TX5 1).2.2.1 ∈ wG := wG_at 418 (by decide +kernel) rfl
theorem zo_RX4_3 : Cond.methodLink RX4 3 Lib.objectInit ∈ wG := wG_at 79 (by decide +kernel) rfl
theorem zk_RX4_9 : Cond.classLink RX4 9 RX3 ∈ wG := wG_at 80 (by decide +kernel) rfl
theorem zs_RX3 : Cond.instantiable RX3 3 ∈ wG := wG_at 47 (by decide +kernel) rfl
theorem zn_RX3 : Cond.instanceMethod yX3_init ∈ wG := wG_at 49 (by decide +kernel) rfl
theorem zc_code3 : Cond.code yX3_init cX3_init 1 none ∈ wG := wG_at 50 (by decide +kernel) rfl
theorem zl_RX4_11 : Cond.methodLinkNest RX4 11 yX3_init "ProcessDesk" ∈ ngW := ngW_at 81 (by decide +kernel) rfl
theorem zf_RX4_12 : Cond.fieldLink RX4 12 RX4 (TX4 0).2.1 (TX4 0).2.2.1 ∈ wG := wG_at 82 (by decide +kernel) rfl
theorem zf_RX4_18 : Cond.fieldLink RX4 18 RX4 (TX4 1).2.1 (TX4 1).2.2.1 ∈ wG := wG_at 85 (by decide +kernel) rfl
theorem zf_RX4_21 : Cond.fieldLink RX4 21 RX4 (TX4 2).2.1 (TX4 2).2.2.1 ∈ wG := wG_at 88 (by decide +kernel) rfl
theorem zf_RX4_25 : Cond.fieldLink RX4 25 RX4 (TX4 8).2.1 (TX4 8).2.2.1 ∈ wG := wG_at 103 (by decide +kernel) rfl
theorem zf_RX4_28 : Cond.fieldLink RX4 28 RX4 (TX4 9).2.1 (TX4 9).2.2.1 ∈ wG := wG_at 105 (by decide +kernel) rfl
theorem zf_RX4_31 : Cond.fieldLink RX4 31 RX4 (TX4 10).2.1 (TX4 10).2.2.1 ∈ wG := wG_at 107 (by decide +kernel) rfl
theorem zf_RX4_34 : Cond.fieldLink RX4 34 RX4 (TX4 11).2.1 (TX4 11).2.2.1 ∈ wG := wG_at 109 (by decide +kernel) rfl
theorem zf_RX4_37 : Cond.fieldLink RX4 37 RX4 (TX4 12).2.1 (TX4 12).2.2.1 ∈ wG := wG_at 111 (by decide +kernel) rfl
theorem zf_RX4_40 : Cond.fieldLink RX4 40 RX4 (TX4 13).2.1 (TX4 13).2.2.1 ∈ wG := wG_at 113 (by decide +kernel) rfl
theorem zo_RX0_3 : Cond.methodLink RX0 3 Lib.objectInit ∈ wG := wG_at 45 (by decide +kernel) rfl
theorem zf_RX0_9 : Cond.fieldLink RX0 9 RX0 (TX0 5).2.1 (TX0 5).2.2.1 ∈ wG := wG_at 181 (by decide +kernel) rfl
theorem zf_RX0_15 : Cond.fieldLink RX0 15 RX0 (TX0 11).2.1 (TX0 11).2.2.1 ∈ wG := wG_at 197 (by decide +kernel) rfl
theorem zk_RX0_18 : Cond.classLink RX0 18 RX3 ∈ wG := wG_at 46 (by decide +kernel) rfl
theorem zl_RX0_20 : Cond.methodLinkNest RX0 20 yX3_init "ProcessDesk" ∈ ngW := ngW_at 48 (by decide +kernel) rfl
theorem zf_RX0_21 : Cond.fieldLink RX0 21 RX0 (TX0 12).2.1 (TX0 12).2.2.1 ∈ wG := wG_at 199 (by decide +kernel) rfl
theorem zk_RX0_25 : Cond.classLink RX0 25 RX4 ∈ wG := wG_at 74 (by decide +kernel) rfl
theorem zs_RX4 : Cond.instantiable RX4 18 ∈ wG := wG_at 75 (by decide +kernel) rfl
theorem zn_RX4 : Cond.instanceMethod yX4_init ∈ wG := wG_at 77 (by decide +kernel) rfl
theorem zc_code4 : Cond.code yX4_init cX4_init 1 none ∈ wG := wG_at 78 (by decide +kernel) rfl
theorem zl_RX0_27 : Cond.methodLinkNest RX0 27 yX4_init "ProcessDesk" ∈ ngW := ngW_at 76 (by decide +kernel) rfl
theorem zf_RX0_28 : Cond.fieldLink RX0 28 RX0 (TX0 13).2.1 (TX0 13).2.2.1 ∈ wG := wG_at 202 (by decide +kernel) rfl
theorem zs_RX1 : Cond.instantiable RX1 11 ∈ wG := wG_at 32 (by decide +kernel) rfl
theorem zn_RX1 : Cond.instanceMethod yX1_init ∈ wG := wG_at 34 (by decide +kernel) rfl
theorem zc_code1 : Cond.code yX1_init cX1_init 2 none ∈ wG := wG_at 35 (by decide +kernel) rfl
theorem zo_RX1_3 : Cond.methodLink RX1 3 Lib.objectInit ∈ wG := wG_at 36 (by decide +kernel) rfl
theorem zk_RX1_9 : Cond.classLink RX1 9 RX0 ∈ wG := wG_at 37 (by decide +kernel) rfl
theorem zf_RX1_11 : Cond.fieldLink RX1 11 RX1 (TX1 0).2.1 (TX1 0).2.2.1 ∈ wG := wG_at 289 (by decide +kernel) rfl
theorem zk_RX1_17 : Cond.classLink RX1 17 RX6 ∈ wG := wG_at 39 (by decide +kernel) rfl
theorem zf_RX1_19 : Cond.fieldLink RX1 19 RX1 (TX1 1).2.1 (TX1 1).2.2.1 ∈ wG := wG_at 293 (by decide +kernel) rfl
theorem zl_RX1_23 : Cond.methodLinkNest RX1 23 yX0_init "ProcessDesk" ∈ ngW := ngW_at 42 (by decide +kernel) rfl
theorem zl_RX1_24 : Cond.methodLinkNest RX1 24 yX6_init "ProcessDesk" ∈ ngW := ngW_at 235 (by decide +kernel) rfl
theorem zs_RX2 : Cond.instantiable RX2 3 ∈ wG := wG_at 342 (by decide +kernel) rfl
theorem zn_RX2 : Cond.instanceMethod yX2_init ∈ wG := wG_at 344 (by decide +kernel) rfl
theorem zc_code2 : Cond.code yX2_init cX2_init 2 none ∈ wG := wG_at 345 (by decide +kernel) rfl
theorem zo_RX2_3 : Cond.methodLink RX2 3 Lib.objectInit ∈ wG := wG_at 346 (by decide +kernel) rfl
theorem zk_RX2_9 : Cond.classLink RX2 9 RX7 ∈ wG := wG_at 347 (by decide +kernel) rfl
theorem zf_RX2_11 : Cond.fieldLink RX2 11 RX2 (TX2 0).2.1 (TX2 0).2.2.1 ∈ wG := wG_at 361 (by decide +kernel) rfl
theorem zl_RX2_17 : Cond.methodLinkNest RX2 17 yX7_init "ProcessDesk" ∈ ngW := ngW_at 350 (by decide +kernel) rfl
theorem zs_RX9 : Cond.instantiable RX9 9 ∈ wG := wG_at 24 (by decide +kernel) rfl
theorem zn_RX9 : Cond.instanceMethod yX9_init ∈ wG := wG_at 26 (by decide +kernel) rfl
theorem zc_code9 : Cond.code yX9_init cX9_init 1 none ∈ wG := wG_at 27 (by decide +kernel) rfl
theorem zo_RX9_3 : Cond.methodLink RX9 3 Lib.objectInit ∈ wG := wG_at 28 (by decide +kernel) rfl
theorem zf_RX9_9 : Cond.fieldLink RX9 9 RX9 (TX9 0).2.1 (TX9 0).2.2.1 ∈ wG := wG_at 465 (by decide +kernel) rfl
theorem zk_RX9_13 : Cond.classLink RX9 13 RX1 ∈ wG := wG_at 31 (by decide +kernel) rfl
theorem zl_RX9_15 : Cond.methodLink RX9 15 yX1_init ∈ wG := wG_at 33 (by decide +kernel) rfl
theorem zf_RX9_16 : Cond.fieldLink RX9 16 RX9 (TX9 4).2.1 (TX9 4).2.2.1 ∈ wG := wG_at 469 (by decide +kernel) rfl
theorem zk_RX9_20 : Cond.classLink RX9 20 RX2 ∈ wG := wG_at 341 (by decide +kernel) rfl
theorem zl_RX9_22 : Cond.methodLink RX9 22 yX2_init ∈ wG := wG_at 343 (by decide +kernel) rfl
theorem zf_RX9_23 : Cond.fieldLink RX9 23 RX9 (TX9 5).2.1 (TX9 5).2.2.1 ∈ wG := wG_at 470 (by decide +kernel) rfl
theorem zk_RX9_27 : Cond.classLink RX9 27 RX8 ∈ wG := wG_at 372 (by decide +kernel) rfl
theorem zl_RX9_29 : Cond.methodLinkNest RX9 29 yX8_init "ProcessDesk" ∈ ngW := ngW_at 374 (by decide +kernel) rfl
theorem zf_RX9_30 : Cond.fieldLink RX9 30 RX9 (TX9 6).2.1 (TX9 6).2.2.1 ∈ wG := wG_at 471 (by decide +kernel) rfl
theorem zk_RX9_34 : Cond.classLink RX9 34 RX5 ∈ wG := wG_at 410 (by decide +kernel) rfl
theorem zl_RX9_36 : Cond.methodLinkNest RX9 36 yX5_init "ProcessDesk" ∈ ngW := ngW_at 412 (by decide +kernel) rfl
theorem zf_RX9_37 : Cond.fieldLink RX9 37 RX9 (TX9 7).2.1 (TX9 7).2.2.1 ∈ wG := wG_at 472 (by decide +kernel) rfl
theorem zk_RX9_41 : Cond.classLink RX9 41 RX4 ∈ wG := wG_at 428 (by decide +kernel) rfl
theorem zl_RX9_43 : Cond.methodLinkNest RX9 43 yX4_init "ProcessDesk" ∈ ngW := ngW_at 429 (by decide +kernel) rfl
theorem zf_RX9_44 : Cond.fieldLink RX9 44 RX9 (TX9 8).2.1 (TX9 8).2.2.1 ∈ wG := wG_at 473 (by decide +kernel) rfl
theorem zs_RX10 : Cond.instantiable RX10 17 ∈ wG := wG_at 1237 (by decide +kernel) rfl
theorem zn_RX10 : Cond.instanceMethod yX10_init ∈ wG := wG_at 1239 (by decide +kernel) rfl
theorem zc_code10 : Cond.code yX10_init cX10_init 1 none ∈ wG := wG_at 1240 (by decide +kernel) rfl
theorem zo_RX10_3 : Cond.methodLink RX10 3 Lib.objectInit ∈ wG := wG_at 1241 (by decide +kernel) rfl
theorem zf_RX10_9 : Cond.fieldLink RX10 9 RX10 (TX10 1).2.1 (TX10 1).2.2.1 ∈ wG := wG_at 1253 (by decide +kernel) rfl
theorem zf_RX10_13 : Cond.fieldLink RX10 13 RX10 (TX10 5).2.1 (TX10 5).2.2.1 ∈ wG := wG_at 1257 (by decide +kernel) rfl
theorem zf_RX10_17 : Cond.fieldLink RX10 17 RX10 (TX10 8).2.1 (TX10 8).2.2.1 ∈ wG := wG_at 1260 (by decide +kernel) rfl
theorem zf_RX10_20 : Cond.fieldLink RX10 20 RX10 (TX10 9).2.1 (TX10 9).2.2.1 ∈ wG := wG_at 1261 (by decide +kernel) rfl
theorem zf_RX10_24 : Cond.fieldLink RX10 24 RX10 (TX10 10).2.1 (TX10 10).2.2.1 ∈ wG := wG_at 1262 (by decide +kernel) rfl
theorem zf_RX10_27 : Cond.fieldLink RX10 27 RX10 (TX10 11).2.1 (TX10 11).2.2.1 ∈ wG := wG_at 1263 (by decide +kernel) rfl
theorem zf_RX10_32 : Cond.fieldLink RX10 32 RX10 (TX10 12).2.1 (TX10 12).2.2.1 ∈ wG := wG_at 1264 (by decide +kernel) rfl
theorem zf_RX10_35 : Cond.fieldLink RX10 35 RX10 (TX10 15).2.1 (TX10 15).2.2.1 ∈ wG := wG_at 1267 (by decide +kernel) rfl
theorem zf_RX10_38 : Cond.fieldLink RX10 38 RX10 (TX10 16).2.1 (TX10 16).2.2.1 ∈ wG := wG_at 1268 (by decide +kernel) rfl
theorem zs_RX0 : Cond.instantiable RX0 14 ∈ wG := wG_at 41 (by decide +kernel) rfl
theorem zn_RX0 : Cond.instanceMethod yX0_init ∈ wG := wG_at 43 (by decide +kernel) rfl
theorem zc_code0 : Cond.code yX0_init cX0_init 1 none ∈ wG := wG_at 44 (by decide +kernel) rfl
theorem zs_RX5 : Cond.instantiable RX5 3 ∈ wG := wG_at 411 (by decide +kernel) rfl
theorem zn_RX5 : Cond.instanceMethod yX5_init ∈ wG := wG_at 413 (by decide +kernel) rfl
theorem zc_code5 : Cond.code yX5_init cX5_init 1 none ∈ wG := wG_at 414 (by decide +kernel) rfl
theorem zs_RX6 : Cond.instantiable RX6 10 ∈ wG := wG_at 234 (by decide +kernel) rfl
theorem zn_RX6 : Cond.instanceMethod yX6_init ∈ wG := wG_at 236 (by decide +kernel) rfl
theorem zc_code6 : Cond.code yX6_init cX6_init 1 none ∈ wG := wG_at 237 (by decide +kernel) rfl
theorem zs_RX7 : Cond.instantiable RX7 2 ∈ wG := wG_at 349 (by decide +kernel) rfl
theorem zn_RX7 : Cond.instanceMethod yX7_init ∈ wG := wG_at 351 (by decide +kernel) rfl
theorem zc_code7 : Cond.code yX7_init cX7_init 1 none ∈ wG := wG_at 352 (by decide +kernel) rfl
theorem zs_RX8 : Cond.instantiable RX8 9 ∈ wG := wG_at 373 (by decide +kernel) rfl
theorem zn_RX8 : Cond.instanceMethod yX8_init ∈ wG := wG_at 375 (by decide +kernel) rfl
theorem zc_code8 : Cond.code yX8_init cX8_init 1 none ∈ wG := wG_at 376 (by decide +kernel) rfl
theorem zd_X3_0 : decode cX3_init 0 = .ok (.aload_n 0, 1) := by decide +kernel
theorem zd_X3_1 : decode cX3_init 1 = .ok (.invokespecial 3, 3) := by decide +kernel
theorem zd_X3_4 : decode cX3_init 4 = .ok (.aload_n 0, 1) := by decide +kernel
theorem zd_X3_5 : decode cX3_init 5 = .ok (.iconst 4, 1) := by decide +kernel
theorem zd_X3_6 : decode cX3_init 6 = .ok (.newarray .long, 2) := by decide +kernel
theorem zd_X3_8 : decode cX3_init 8 = .ok (.putfield 9, 3) := by decide +kernel
theorem zd_X3_11 : decode cX3_init 11 = .ok (.return_, 1) := by decide +kernel
theorem zd_X6_0 : decode cX6_init 0 = .ok (.aload_n 0, 1) := by decide +kernel
theorem zd_X6_1 : decode cX6_init 1 = .ok (.invokespecial 3, 3) := by decide +kernel
theorem zd_X6_4 : decode cX6_init 4 = .ok (.aload_n 0, 1) := by decide +kernel
theorem zd_X6_5 : decode cX6_init 5 = .ok (.bipush 40, 2) := by decide +kernel
theorem zd_X6_7 : decode cX6_init 7 = .ok (.newarray .long, 2) := by decide +kernel
theorem zd_X6_9 : decode cX6_init 9 = .ok (.putfield 9, 3) := by decide +kernel
theorem zd_X6_12 : decode cX6_init 12 = .ok (.aload_n 0, 1) := by decide +kernel
theorem zd_X6_13 : decode cX6_init 13 = .ok (.bipush 40, 2) := by decide +kernel
theorem zd_X6_15 : decode cX6_init 15 = .ok (.newarray .long, 2) := by decide +kernel
theorem zd_X6_17 : decode cX6_init 17 = .ok (.putfield 15, 3) := by decide +kernel
theorem zd_X6_20 : decode cX6_init 20 = .ok (.return_, 1) := by decide +kernel
theorem zd_X7_0 : decode cX7_init 0 = .ok (.aload_n 0, 1) := by decide +kernel
theorem zd_X7_1 : decode cX7_init 1 = .ok (.invokespecial 3, 3) := by decide +kernel
theorem zd_X7_4 : decode cX7_init 4 = .ok (.aload_n 0, 1) := by decide +kernel
theorem zd_X7_5 : decode cX7_init 5 = .ok (.sipush 716, 3) := by decide +kernel
theorem zd_X7_8 : decode cX7_init 8 = .ok (.newarray .long, 2) := by decide +kernel
theorem zd_X7_10 : decode cX7_init 10 = .ok (.putfield 9, 3) := by decide +kernel
theorem zd_X7_13 : decode cX7_init 13 = .ok (.return_, 1) := by decide +kernel
theorem zd_X8_0 : decode cX8_init 0 = .ok (.aload_n 0, 1) := by decide +kernel
theorem zd_X8_1 : decode cX8_init 1 = .ok (.invokespecial 3, 3) := by decide +kernel
theorem zd_X8_4 : decode cX8_init 4 = .ok (.aload_n 0, 1) := by decide +kernel
theorem zd_X8_5 : decode cX8_init 5 = .ok (.sipush 400, 3) := by decide +kernel
theorem zd_X8_8 : decode cX8_init 8 = .ok (.newarray .byte, 2) := by decide +kernel
theorem zd_X8_10 : decode cX8_init 10 = .ok (.putfield 9, 3) := by decide +kernel
theorem zd_X8_13 : decode cX8_init 13 = .ok (.return_, 1) := by decide +kernel
theorem zd_X5_0 : decode cX5_init 0 = .ok (.aload_n 0, 1) := by decide +kernel
theorem zd_X5_1 : decode cX5_init 1 = .ok (.invokespecial 3, 3) := by decide +kernel
theorem zd_X5_4 : decode cX5_init 4 = .ok (.aload_n 0, 1) := by decide +kernel
theorem zd_X5_5 : decode cX5_init 5 = .ok (.iconst 5, 1) := by decide +kernel
theorem zd_X5_6 : decode cX5_init 6 = .ok (.newarray .long, 2) := by decide +kernel
theorem zd_X5_8 : decode cX5_init 8 = .ok (.putfield 9, 3) := by decide +kernel
theorem zd_X5_11 : decode cX5_init 11 = .ok (.aload_n 0, 1) := by decide +kernel
theorem zd_X5_12 : decode cX5_init 12 = .ok (.iconst 5, 1) := by decide +kernel
theorem zd_X5_13 : decode cX5_init 13 = .ok (.newarray .long, 2) := by decide +kernel
theorem zd_X5_15 : decode cX5_init 15 = .ok (.putfield 15, 3) := by decide +kernel
theorem zd_X5_18 : decode cX5_init 18 = .ok (.return_, 1) := by decide +kernel
theorem zd_X4_0 : decode cX4_init 0 = .ok (.aload_n 0, 1) := by decide +kernel
theorem zd_X4_1 : decode cX4_init 1 = .ok (.invokespecial 3, 3) := by decide +kernel
theorem zd_X4_4 : decode cX4_init 4 = .ok (.aload_n 0, 1) := by decide +kernel
theorem zd_X4_5 : decode cX4_init 5 = .ok (.new 9, 3) := by decide +kernel
theorem zd_X4_8 : decode cX4_init 8 = .ok (.dup, 1) := by decide +kernel
theorem zd_X4_9 : decode cX4_init 9 = .ok (.invokespecial 11, 3) := by decide +kernel
theorem zd_X4_12 : decode cX4_init 12 = .ok (.putfield 12, 3) := by decide +kernel
theorem zd_X4_15 : decode cX4_init 15 = .ok (.aload_n 0, 1) := by decide +kernel
theorem zd_X4_16 : decode cX4_init 16 = .ok (.new 9, 3) := by decide +kernel
theorem zd_X4_19 : decode cX4_init 19 = .ok (.dup, 1) := by decide +kernel
theorem zd_X4_20 : decode cX4_init 20 = .ok (.invokespecial 11, 3) := by decide +kernel
theorem zd_X4_23 : decode cX4_init 23 = .ok (.putfield 18, 3) := by decide +kernel
theorem zd_X4_26 : decode cX4_init 26 = .ok (.aload_n 0, 1) := by decide +kernel
theorem zd_X4_27 : decode cX4_init 27 = .ok (.iconst 4, 1) := by decide +kernel
theorem zd_X4_28 : decode cX4_init 28 = .ok (.newarray .long, 2) := by decide +kernel
theorem zd_X4_30 : decode cX4_init 30 = .ok (.putfield 21, 3) := by decide +kernel
theorem zd_X4_33 : decode cX4_init 33 = .ok (.aload_n 0, 1) := by decide +kernel
theorem zd_X4_34 : decode cX4_init 34 = .ok (.iconst 4, 1) := by decide +kernel
theorem zd_X4_35 : decode cX4_init 35 = .ok (.newarray .long, 2) := by decide +kernel
theorem zd_X4_37 : decode cX4_init 37 = .ok (.putfield 25, 3) := by decide +kernel
theorem zd_X4_40 : decode cX4_init 40 = .ok (.aload_n 0, 1) := by decide +kernel
theorem zd_X4_41 : decode cX4_init 41 = .ok (.iconst 4, 1) := by decide +kernel
theorem zd_X4_42 : decode cX4_init 42 = .ok (.newarray .long, 2) := by decide +kernel
theorem zd_X4_44 : decode cX4_init 44 = .ok (.putfield 28, 3) := by decide +kernel
theorem zd_X4_47 : decode cX4_init 47 = .ok (.aload_n 0, 1) := by decide +kernel
theorem zd_X4_48 : decode cX4_init 48 = .ok (.iconst 4, 1) := by decide +kernel
theorem zd_X4_49 : decode cX4_init 49 = .ok (.newarray .long, 2) := by decide +kernel
theorem zd_X4_51 : decode cX4_init 51 = .ok (.putfield 31, 3) := by decide +kernel
theorem zd_X4_54 : decode cX4_init 54 = .ok (.aload_n 0, 1) := by decide +kernel
theorem zd_X4_55 : decode cX4_init 55 = .ok (.iconst 4, 1) := by decide +kernel
theorem zd_X4_56 : decode cX4_init 56 = .ok (.newarray .long, 2) := by decide +kernel
theorem zd_X4_58 : decode cX4_init 58 = .ok (.putfield 34, 3) := by decide +kernel
theorem zd_X4_61 : decode cX4_init 61 = .ok (.aload_n 0, 1) := by decide +kernel
theorem zd_X4_62 : decode cX4_init 62 = .ok (.iconst 4, 1) := by decide +kernel
theorem zd_X4_63 : decode cX4_init 63 = .ok (.newarray .long, 2) := by decide +kernel
theorem zd_X4_65 : decode cX4_init 65 = .ok (.putfield 37, 3) := by decide +kernel
theorem zd_X4_68 : decode cX4_init 68 = .ok (.aload_n 0, 1) := by decide +kernel
theorem zd_X4_69 : decode cX4_init 69 = .ok (.iconst 4, 1) := by decide +kernel
theorem zd_X4_70 : decode cX4_init 70 = .ok (.newarray .long, 2) := by decide +kernel
theorem zd_X4_72 : decode cX4_init 72 = .ok (.putfield 40, 3) := by decide +kernel
theorem zd_X4_75 : decode cX4_init 75 = .ok (.return_, 1) := by decide +kernel
theorem zd_X0_0 : decode cX0_init 0 = .ok (.aload_n 0, 1) := by decide +kernel
theorem zd_X0_1 : decode cX0_init 1 = .ok (.invokespecial 3, 3) := by decide +kernel
theorem zd_X0_4 : decode cX0_init 4 = .ok (.aload_n 0, 1) := by decide +kernel
theorem zd_X0_5 : decode cX0_init 5 = .ok (.iconst 2, 1) := by decide +kernel
theorem zd_X0_6 : decode cX0_init 6 = .ok (.newarray .long, 2) := by decide +kernel
theorem zd_X0_8 : decode cX0_init 8 = .ok (.putfield 9, 3) := by decide +kernel
theorem zd_X0_11 : decode cX0_init 11 = .ok (.aload_n 0, 1) := by decide +kernel
theorem zd_X0_12 : decode cX0_init 12 = .ok (.iconst 4, 1) := by decide +kernel
theorem zd_X0_13 : decode cX0_init 13 = .ok (.newarray .long, 2) := by decide +kernel
theorem zd_X0_15 : decode cX0_init 15 = .ok (.putfield 15, 3) := by decide +kernel
theorem zd_X0_18 : decode cX0_init 18 = .ok (.aload_n 0, 1) := by decide +kernel
theorem zd_X0_19 : decode cX0_init 19 = .ok (.new 18, 3) := by decide +kernel
theorem zd_X0_22 : decode cX0_init 22 = .ok (.dup, 1) := by decide +kernel
theorem zd_X0_23 : decode cX0_init 23 = .ok (.invokespecial 20, 3) := by decide +kernel
theorem zd_X0_26 : decode cX0_init 26 = .ok (.putfield 21, 3) := by decide +kernel
theorem zd_X0_29 : decode cX0_init 29 = .ok (.aload_n 0, 1) := by decide +kernel
theorem zd_X0_30 : decode cX0_init 30 = .ok (.new 25, 3) := by decide +kernel
theorem zd_X0_33 : decode cX0_init 33 = .ok (.dup, 1) := by decide +kernel
theorem zd_X0_34 : decode cX0_init 34 = .ok (.invokespecial 27, 3) := by decide +kernel
theorem zd_X0_37 : decode cX0_init 37 = .ok (.putfield 28, 3) := by decide +kernel
theorem zd_X0_40 : decode cX0_init 40 = .ok (.return_, 1) := by decide +kernel
theorem zd_X1_0 : decode cX1_init 0 = .ok (.aload_n 0, 1) := by decide +kernel
theorem zd_X1_1 : decode cX1_init 1 = .ok (.invokespecial 3, 3) := by decide +kernel
theorem zd_X1_4 : decode cX1_init 4 = .ok (.aload_n 0, 1) := by decide +kernel
theorem zd_X1_5 : decode cX1_init 5 = .ok (.iconst 5, 1) := by decide +kernel
theorem zd_X1_6 : decode cX1_init 6 = .ok (.anewarray 9, 3) := by decide +kernel
theorem zd_X1_9 : decode cX1_init 9 = .ok (.putfield 11, 3) := by decide +kernel
theorem zd_X1_12 : decode cX1_init 12 = .ok (.aload_n 0, 1) := by decide +kernel
theorem zd_X1_13 : decode cX1_init 13 = .ok (.iconst 4, 1) := by decide +kernel
theorem zd_X1_14 : decode cX1_init 14 = .ok (.anewarray 17, 3) := by decide +kernel
theorem zd_X1_17 : decode cX1_init 17 = .ok (.putfield 19, 3) := by decide +kernel
theorem zd_X1_20 : decode cX1_init 20 = .ok (.iconst 0, 1) := by decide +kernel
theorem zd_X1_21 : decode cX1_init 21 = .ok (.istore_n 1, 1) := by decide +kernel
theorem zd_X1_22 : decode cX1_init 22 = .ok (.iload_n 1, 1) := by decide +kernel
theorem zd_X1_23 : decode cX1_init 23 = .ok (.aload_n 0, 1) := by decide +kernel
theorem zd_X1_24 : decode cX1_init 24 = .ok (.getfield 11, 3) := by decide +kernel
theorem zd_X1_27 : decode cX1_init 27 = .ok (.arraylength, 1) := by decide +kernel
theorem zd_X1_28 : decode cX1_init 28 = .ok (.if_icmp .ge 22, 3) := by decide +kernel
theorem zd_X1_31 : decode cX1_init 31 = .ok (.aload_n 0, 1) := by decide +kernel
theorem zd_X1_32 : decode cX1_init 32 = .ok (.getfield 11, 3) := by decide +kernel
theorem zd_X1_35 : decode cX1_init 35 = .ok (.iload_n 1, 1) := by decide +kernel
theorem zd_X1_36 : decode cX1_init 36 = .ok (.new 9, 3) := by decide +kernel
theorem zd_X1_39 : decode cX1_init 39 = .ok (.dup, 1) := by decide +kernel
theorem zd_X1_40 : decode cX1_init 40 = .ok (.invokespecial 23, 3) := by decide +kernel
theorem zd_X1_43 : decode cX1_init 43 = .ok (.aastore, 1) := by decide +kernel
theorem zd_X1_44 : decode cX1_init 44 = .ok (.iinc 1 1, 3) := by decide +kernel
theorem zd_X1_47 : decode cX1_init 47 = .ok (.goto (-25), 3) := by decide +kernel
theorem zd_X1_50 : decode cX1_init 50 = .ok (.iconst 0, 1) := by decide +kernel
theorem zd_X1_51 : decode cX1_init 51 = .ok (.istore_n 1, 1) := by decide +kernel
theorem zd_X1_52 : decode cX1_init 52 = .ok (.iload_n 1, 1) := by decide +kernel
theorem zd_X1_53 : decode cX1_init 53 = .ok (.aload_n 0, 1) := by decide +kernel
theorem zd_X1_54 : decode cX1_init 54 = .ok (.getfield 19, 3) := by decide +kernel
theorem zd_X1_57 : decode cX1_init 57 = .ok (.arraylength, 1) := by decide +kernel
theorem zd_X1_58 : decode cX1_init 58 = .ok (.if_icmp .ge 22, 3) := by decide +kernel
theorem zd_X1_61 : decode cX1_init 61 = .ok (.aload_n 0, 1) := by decide +kernel
theorem zd_X1_62 : decode cX1_init 62 = .ok (.getfield 19, 3) := by decide +kernel
theorem zd_X1_65 : decode cX1_init 65 = .ok (.iload_n 1, 1) := by decide +kernel
theorem zd_X1_66 : decode cX1_init 66 = .ok (.new 17, 3) := by decide +kernel
theorem zd_X1_69 : decode cX1_init 69 = .ok (.dup, 1) := by decide +kernel
theorem zd_X1_70 : decode cX1_init 70 = .ok (.invokespecial 24, 3) := by decide +kernel
theorem zd_X1_73 : decode cX1_init 73 = .ok (.aastore, 1) := by decide +kernel
theorem zd_X1_74 : decode cX1_init 74 = .ok (.iinc 1 1, 3) := by decide +kernel
theorem zd_X1_77 : decode cX1_init 77 = .ok (.goto (-25), 3) := by decide +kernel
theorem zd_X1_80 : decode cX1_init 80 = .ok (.return_, 1) := by decide +kernel
theorem zd_X2_0 : decode cX2_init 0 = .ok (.aload_n 0, 1) := by decide +kernel
theorem zd_X2_1 : decode cX2_init 1 = .ok (.invokespecial 3, 3) := by decide +kernel
theorem zd_X2_4 : decode cX2_init 4 = .ok (.aload_n 0, 1) := by decide +kernel
theorem zd_X2_5 : decode cX2_init 5 = .ok (.bipush 9, 2) := by decide +kernel
theorem zd_X2_7 : decode cX2_init 7 = .ok (.anewarray 9, 3) := by decide +kernel
theorem zd_X2_10 : decode cX2_init 10 = .ok (.putfield 11, 3) := by decide +kernel
theorem zd_X2_13 : decode cX2_init 13 = .ok (.iconst 0, 1) := by decide +kernel
theorem zd_X2_14 : decode cX2_init 14 = .ok (.istore_n 1, 1) := by decide +kernel
theorem zd_X2_15 : decode cX2_init 15 = .ok (.iload_n 1, 1) := by decide +kernel
theorem zd_X2_16 : decode cX2_init 16 = .ok (.aload_n 0, 1) := by decide +kernel
theorem zd_X2_17 : decode cX2_init 17 = .ok (.getfield 11, 3) := by decide +kernel
theorem zd_X2_20 : decode cX2_init 20 = .ok (.arraylength, 1) := by decide +kernel
theorem zd_X2_21 : decode cX2_init 21 = .ok (.if_icmp .ge 22, 3) := by decide +kernel
theorem zd_X2_24 : decode cX2_init 24 = .ok (.aload_n 0, 1) := by decide +kernel
theorem zd_X2_25 : decode cX2_init 25 = .ok (.getfield 11, 3) := by decide +kernel
theorem zd_X2_28 : decode cX2_init 28 = .ok (.iload_n 1, 1) := by decide +kernel
theorem zd_X2_29 : decode cX2_init 29 = .ok (.new 9, 3) := by decide +kernel
theorem zd_X2_32 : decode cX2_init 32 = .ok (.dup, 1) := by decide +kernel
theorem zd_X2_33 : decode cX2_init 33 = .ok (.invokespecial 17, 3) := by decide +kernel
theorem zd_X2_36 : decode cX2_init 36 = .ok (.aastore, 1) := by decide +kernel
theorem zd_X2_37 : decode cX2_init 37 = .ok (.iinc 1 1, 3) := by decide +kernel
theorem zd_X2_40 : decode cX2_init 40 = .ok (.goto (-25), 3) := by decide +kernel
theorem zd_X2_43 : decode cX2_init 43 = .ok (.return_, 1) := by decide +kernel
theorem zd_X9_0 : decode cX9_init 0 = .ok (.aload_n 0, 1) := by decide +kernel
theorem zd_X9_1 : decode cX9_init 1 = .ok (.invokespecial 3, 3) := by decide +kernel
theorem zd_X9_4 : decode cX9_init 4 = .ok (.aload_n 0, 1) := by decide +kernel
theorem zd_X9_5 : decode cX9_init 5 = .ok (.iconst (-1), 1) := by decide +kernel
theorem zd_X9_6 : decode cX9_init 6 = .ok (.putfield 9, 3) := by decide +kernel
theorem zd_X9_9 : decode cX9_init 9 = .ok (.aload_n 0, 1) := by decide +kernel
theorem zd_X9_10 : decode cX9_init 10 = .ok (.new 13, 3) := by decide +kernel
theorem zd_X9_13 : decode cX9_init 13 = .ok (.dup, 1) := by decide +kernel
theorem zd_X9_14 : decode cX9_init 14 = .ok (.invokespecial 15, 3) := by decide +kernel
theorem zd_X9_17 : decode cX9_init 17 = .ok (.putfield 16, 3) := by decide +kernel
theorem zd_X9_20 : decode cX9_init 20 = .ok (.aload_n 0, 1) := by decide +kernel
theorem zd_X9_21 : decode cX9_init 21 = .ok (.new 20, 3) := by decide +kernel
theorem zd_X9_24 : decode cX9_init 24 = .ok (.dup, 1) := by decide +kernel
theorem zd_X9_25 : decode cX9_init 25 = .ok (.invokespecial 22, 3) := by decide +kernel
theorem zd_X9_28 : decode cX9_init 28 = .ok (.putfield 23, 3) := by decide +kernel
theorem zd_X9_31 : decode cX9_init 31 = .ok (.aload_n 0, 1) := by decide +kernel
theorem zd_X9_32 : decode cX9_init 32 = .ok (.new 27, 3) := by decide +kernel
theorem zd_X9_35 : decode cX9_init 35 = .ok (.dup, 1) := by decide +kernel
theorem zd_X9_36 : decode cX9_init 36 = .ok (.invokespecial 29, 3) := by decide +kernel
theorem zd_X9_39 : decode cX9_init 39 = .ok (.putfield 30, 3) := by decide +kernel
theorem zd_X9_42 : decode cX9_init 42 = .ok (.aload_n 0, 1) := by decide +kernel
theorem zd_X9_43 : decode cX9_init 43 = .ok (.new 34, 3) := by decide +kernel
theorem zd_X9_46 : decode cX9_init 46 = .ok (.dup, 1) := by decide +kernel
theorem zd_X9_47 : decode cX9_init 47 = .ok (.invokespecial 36, 3) := by decide +kernel
theorem zd_X9_50 : decode cX9_init 50 = .ok (.putfield 37, 3) := by decide +kernel
theorem zd_X9_53 : decode cX9_init 53 = .ok (.aload_n 0, 1) := by decide +kernel
theorem zd_X9_54 : decode cX9_init 54 = .ok (.new 41, 3) := by decide +kernel
theorem zd_X9_57 : decode cX9_init 57 = .ok (.dup, 1) := by decide +kernel
theorem zd_X9_58 : decode cX9_init 58 = .ok (.invokespecial 43, 3) := by decide +kernel
theorem zd_X9_61 : decode cX9_init 61 = .ok (.putfield 44, 3) := by decide +kernel
theorem zd_X9_64 : decode cX9_init 64 = .ok (.aload_n 0, 1) := by decide +kernel
theorem zd_X9_65 : decode cX9_init 65 = .ok (.getfield 16, 3) := by decide +kernel
theorem zd_X9_68 : decode cX9_init 68 = .ok (.invokevirtual 48, 3) := by decide +kernel
theorem zd_X9_71 : decode cX9_init 71 = .ok (.return_, 1) := by decide +kernel
theorem zd_X10_0 : decode cX10_init 0 = .ok (.aload_n 0, 1) := by decide +kernel
theorem zd_X10_1 : decode cX10_init 1 = .ok (.invokespecial 3, 3) := by decide +kernel
theorem zd_X10_4 : decode cX10_init 4 = .ok (.aload_n 0, 1) := by decide +kernel
theorem zd_X10_5 : decode cX10_init 5 = .ok (.iconst 3, 1) := by decide +kernel
theorem zd_X10_6 : decode cX10_init 6 = .ok (.newarray .int, 2) := by decide +kernel
theorem zd_X10_8 : decode cX10_init 8 = .ok (.putfield 9, 3) := by decide +kernel
theorem zd_X10_11 : decode cX10_init 11 = .ok (.aload_n 0, 1) := by decide +kernel
theorem zd_X10_12 : decode cX10_init 12 = .ok (.iconst (-1), 1) := by decide +kernel
theorem zd_X10_13 : decode cX10_init 13 = .ok (.putfield 13, 3) := by decide +kernel
theorem zd_X10_16 : decode cX10_init 16 = .ok (.aload_n 0, 1) := by decide +kernel
theorem zd_X10_17 : decode cX10_init 17 = .ok (.sipush 400, 3) := by decide +kernel
theorem zd_X10_20 : decode cX10_init 20 = .ok (.newarray .int, 2) := by decide +kernel
theorem zd_X10_22 : decode cX10_init 22 = .ok (.putfield 17, 3) := by decide +kernel
theorem zd_X10_25 : decode cX10_init 25 = .ok (.aload_n 0, 1) := by decide +kernel
theorem zd_X10_26 : decode cX10_init 26 = .ok (.sipush 754, 3) := by decide +kernel
theorem zd_X10_29 : decode cX10_init 29 = .ok (.newarray .long, 2) := by decide +kernel
theorem zd_X10_31 : decode cX10_init 31 = .ok (.putfield 20, 3) := by decide +kernel
theorem zd_X10_34 : decode cX10_init 34 = .ok (.aload_n 0, 1) := by decide +kernel
theorem zd_X10_35 : decode cX10_init 35 = .ok (.sipush 754, 3) := by decide +kernel
theorem zd_X10_38 : decode cX10_init 38 = .ok (.newarray .long, 2) := by decide +kernel
theorem zd_X10_40 : decode cX10_init 40 = .ok (.putfield 24, 3) := by decide +kernel
theorem zd_X10_43 : decode cX10_init 43 = .ok (.aload_n 0, 1) := by decide +kernel
theorem zd_X10_44 : decode cX10_init 44 = .ok (.sipush 754, 3) := by decide +kernel
theorem zd_X10_47 : decode cX10_init 47 = .ok (.newarray .long, 2) := by decide +kernel
theorem zd_X10_49 : decode cX10_init 49 = .ok (.putfield 27, 3) := by decide +kernel
theorem zd_X10_52 : decode cX10_init 52 = .ok (.aload_n 0, 1) := by decide +kernel
theorem zd_X10_53 : decode cX10_init 53 = .ok (.bipush 8, 2) := by decide +kernel
theorem zd_X10_55 : decode cX10_init 55 = .ok (.sipush 754, 3) := by decide +kernel
theorem zd_X10_58 : decode cX10_init 58 = .ok (.multianewarray 30 2, 4) := by decide +kernel
theorem zd_X10_62 : decode cX10_init 62 = .ok (.putfield 32, 3) := by decide +kernel
theorem zd_X10_65 : decode cX10_init 65 = .ok (.aload_n 0, 1) := by decide +kernel
theorem zd_X10_66 : decode cX10_init 66 = .ok (.iconst 5, 1) := by decide +kernel
theorem zd_X10_67 : decode cX10_init 67 = .ok (.newarray .long, 2) := by decide +kernel
theorem zd_X10_69 : decode cX10_init 69 = .ok (.putfield 35, 3) := by decide +kernel
theorem zd_X10_72 : decode cX10_init 72 = .ok (.aload_n 0, 1) := by decide +kernel
theorem zd_X10_73 : decode cX10_init 73 = .ok (.iconst 5, 1) := by decide +kernel
theorem zd_X10_74 : decode cX10_init 74 = .ok (.newarray .long, 2) := by decide +kernel
theorem zd_X10_76 : decode cX10_init 76 = .ok (.putfield 38, 3) := by decide +kernel
theorem zd_X10_79 : decode cX10_init 79 = .ok (.aload_n 0, 1) := by decide +kernel
theorem zd_X10_80 : decode cX10_init 80 = .ok (.getfield 20, 3) := by decide +kernel
theorem zd_X10_83 : decode cX10_init 83 = .ok (.invokestatic 41, 3) := by decide +kernel
theorem zd_X10_86 : decode cX10_init 86 = .ok (.aload_n 0, 1) := by decide +kernel
theorem zd_X10_87 : decode cX10_init 87 = .ok (.getfield 20, 3) := by decide +kernel
theorem zd_X10_90 : decode cX10_init 90 = .ok (.iconst 0, 1) := by decide +kernel
theorem zd_X10_91 : decode cX10_init 91 = .ok (.lconst 1, 1) := by decide +kernel
theorem zd_X10_92 : decode cX10_init 92 = .ok (.lastore, 1) := by decide +kernel
theorem zd_X10_93 : decode cX10_init 93 = .ok (.aload_n 0, 1) := by decide +kernel
theorem zd_X10_94 : decode cX10_init 94 = .ok (.getfield 20, 3) := by decide +kernel
theorem zd_X10_97 : decode cX10_init 97 = .ok (.iconst 0, 1) := by decide +kernel
theorem zd_X10_98 : decode cX10_init 98 = .ok (.iconst 1, 1) := by decide +kernel
theorem zd_X10_99 : decode cX10_init 99 = .ok (.bipush 100, 2) := by decide +kernel
theorem zd_X10_101 : decode cX10_init 101 = .ok (.iconst 0, 1) := by decide +kernel
theorem zd_X10_102 : decode cX10_init 102 = .ok (.iconst 0, 1) := by decide +kernel
theorem zd_X10_103 : decode cX10_init 103 = .ok (.invokestatic 45, 3) := by decide +kernel
theorem zd_X10_106 : decode cX10_init 106 = .ok (.aload_n 0, 1) := by decide +kernel
theorem zd_X10_107 : decode cX10_init 107 = .ok (.getfield 20, 3) := by decide +kernel
theorem zd_X10_110 : decode cX10_init 110 = .ok (.iconst 1, 1) := by decide +kernel
theorem zd_X10_111 : decode cX10_init 111 = .ok (.lconst 1, 1) := by decide +kernel
theorem zd_X10_112 : decode cX10_init 112 = .ok (.lastore, 1) := by decide +kernel
theorem zd_X10_113 : decode cX10_init 113 = .ok (.aload_n 0, 1) := by decide +kernel
theorem zd_X10_114 : decode cX10_init 114 = .ok (.getfield 20, 3) := by decide +kernel
theorem zd_X10_117 : decode cX10_init 117 = .ok (.bipush 50, 2) := by decide +kernel
theorem zd_X10_119 : decode cX10_init 119 = .ok (.ldc2_w 49, 3) := by decide +kernel
theorem zd_X10_122 : decode cX10_init 122 = .ok (.lastore, 1) := by decide +kernel
theorem zd_X10_123 : decode cX10_init 123 = .ok (.aload_n 0, 1) := by decide +kernel
theorem zd_X10_124 : decode cX10_init 124 = .ok (.getfield 20, 3) := by decide +kernel
theorem zd_X10_127 : decode cX10_init 127 = .ok (.bipush 51, 2) := by decide +kernel
theorem zd_X10_129 : decode cX10_init 129 = .ok (.ldc2_w 49, 3) := by decide +kernel
theorem zd_X10_132 : decode cX10_init 132 = .ok (.lastore, 1) := by decide +kernel
theorem zd_X10_133 : decode cX10_init 133 = .ok (.return_, 1) := by decide +kernel
