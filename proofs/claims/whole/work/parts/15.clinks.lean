theorem koi : Cond.instanceMethod objectInit ∈ lw_good := g_tab 28 (by decide +kernel) rfl
theorem koc : Cond.code objectInit ⟨#[0xb1]⟩ 1 none ∈ lw_good := g_tab 29 (by decide +kernel) rfl
theorem kac_int : Cond.arrayClass .int ∈ lw_good := g_tab 81 (by decide +kernel) rfl
theorem kac_boolean : Cond.arrayClass .boolean ∈ lw_good := g_tab 342 (by decide +kernel) rfl
theorem kac_byte : Cond.arrayClass .byte ∈ lw_good := g_tab 43 (by decide +kernel) rfl
theorem kac_long : Cond.arrayClass .long ∈ lw_good := g_tab 80 (by decide +kernel) rfl
theorem ct0 : ∀ j, j < 5 → (TX0 j).1 = RX0 := by decide +kernel
theorem cdf0 : ∀ j, j < 5 → defaultValue (tyX0 j) = if gF 0 j = 0 then .int 0 else if gF 0 j = 1 then .long 0 else .null := by
  intro j hj
  match j, hj with
  | 0, _ => rfl
  | 1, _ => rfl
  | 2, _ => rfl
  | 3, _ => rfl
  | 4, _ => rfl
  | n + 5, h => exact absurd h (by omega)
theorem kin0 : Cond.instantiable RX0 5 ∈ lw_good := g_tab 57 (by decide +kernel) rfl
theorem kit0 : Cond.initialized RX0 ∈ lw_good := g_tab 5 (by decide +kernel) rfl
theorem kic0 : Cond.code yX0_init cX0_init 1 none ∈ lw_good := g_tab 60 (by decide +kernel) rfl
theorem kii0 : Cond.instanceMethod yX0_init ∈ lw_good := g_tab 59 (by decide +kernel) rfl
theorem ct1 : ∀ j, j < 3 → (TX1 j).1 = RX1 := by decide +kernel
theorem cdf1 : ∀ j, j < 3 → defaultValue (tyX1 j) = if gF 1 j = 0 then .int 0 else if gF 1 j = 1 then .long 0 else .null := by
  intro j hj
  match j, hj with
  | 0, _ => rfl
  | 1, _ => rfl
  | 2, _ => rfl
  | n + 3, h => exact absurd h (by omega)
theorem kin1 : Cond.instantiable RX1 3 ∈ lw_good := g_tab 280 (by decide +kernel) rfl
theorem kit1 : Cond.initialized RX1 ∈ lw_good := g_tab 8 (by decide +kernel) rfl
theorem kic1 : Cond.code yX1_init cX1_init 2 none ∈ lw_good := g_tab 283 (by decide +kernel) rfl
theorem kii1 : Cond.instanceMethod yX1_init ∈ lw_good := g_tab 282 (by decide +kernel) rfl
theorem ct2 : ∀ j, j < 12 → (TX2 j).1 = RX2 := by decide +kernel
theorem cdf2 : ∀ j, j < 12 → defaultValue (tyX2 j) = if gF 2 j = 0 then .int 0 else if gF 2 j = 1 then .long 0 else .null := by
  intro j hj
  match j, hj with
  | 0, _ => rfl
  | 1, _ => rfl
  | 2, _ => rfl
  | 3, _ => rfl
  | 4, _ => rfl
  | 5, _ => rfl
  | 6, _ => rfl
  | 7, _ => rfl
  | 8, _ => rfl
  | 9, _ => rfl
  | 10, _ => rfl
  | 11, _ => rfl
  | n + 12, h => exact absurd h (by omega)
theorem kin2 : Cond.instantiable RX2 12 ∈ lw_good := g_tab 354 (by decide +kernel) rfl
theorem kit2 : Cond.initialized RX2 ∈ lw_good := g_tab 11 (by decide +kernel) rfl
theorem kic2 : Cond.code yX2_init cX2_init 1 none ∈ lw_good := g_tab 357 (by decide +kernel) rfl
theorem kii2 : Cond.instanceMethod yX2_init ∈ lw_good := g_tab 356 (by decide +kernel) rfl
theorem ct3 : ∀ j, j < 1 → (TX3 j).1 = RX3 := by decide +kernel
theorem cdf3 : ∀ j, j < 1 → defaultValue (tyX3 j) = if gF 3 j = 0 then .int 0 else if gF 3 j = 1 then .long 0 else .null := by
  intro j hj
  match j, hj with
  | 0, _ => rfl
  | n + 1, h => exact absurd h (by omega)
theorem kin3 : Cond.instantiable RX3 1 ∈ lw_good := g_tab 344 (by decide +kernel) rfl
theorem kit3 : Cond.initialized RX3 ∈ lw_good := g_tab 10 (by decide +kernel) rfl
theorem kic3 : Cond.code yX3_init cX3_init 1 none ∈ lw_good := g_tab 347 (by decide +kernel) rfl
theorem kii3 : Cond.instanceMethod yX3_init ∈ lw_good := g_tab 346 (by decide +kernel) rfl
theorem ct4 : ∀ j, j < 7 → (TX4 j).1 = RX4 := by decide +kernel
theorem cdf4 : ∀ j, j < 7 → defaultValue (tyX4 j) = if gF 4 j = 0 then .int 0 else if gF 4 j = 1 then .long 0 else .null := by
  intro j hj
  match j, hj with
  | 0, _ => rfl
  | 1, _ => rfl
  | 2, _ => rfl
  | 3, _ => rfl
  | 4, _ => rfl
  | 5, _ => rfl
  | 6, _ => rfl
  | n + 7, h => exact absurd h (by omega)
theorem kin4 : Cond.instantiable RX4 7 ∈ lw_good := g_tab 45 (by decide +kernel) rfl
theorem kit4 : Cond.initialized RX4 ∈ lw_good := g_tab 3 (by decide +kernel) rfl
theorem kic4 : Cond.code yX4_init cX4_init 2 none ∈ lw_good := g_tab 48 (by decide +kernel) rfl
theorem kii4 : Cond.instanceMethod yX4_init ∈ lw_good := g_tab 47 (by decide +kernel) rfl
theorem ct5 : ∀ j, j < 10 → (TX5 j).1 = RX5 := by decide +kernel
theorem cdf5 : ∀ j, j < 10 → defaultValue (tyX5 j) = if gF 5 j = 0 then .int 0 else if gF 5 j = 1 then .long 0 else .null := by
  intro j hj
  match j, hj with
  | 0, _ => rfl
  | 1, _ => rfl
  | 2, _ => rfl
  | 3, _ => rfl
  | 4, _ => rfl
  | 5, _ => rfl
  | 6, _ => rfl
  | 7, _ => rfl
  | 8, _ => rfl
  | 9, _ => rfl
  | n + 10, h => exact absurd h (by omega)
theorem kin5 : Cond.instantiable RX5 10 ∈ lw_good := g_tab 227 (by decide +kernel) rfl
theorem kit5 : Cond.initialized RX5 ∈ lw_good := g_tab 7 (by decide +kernel) rfl
theorem kic5 : Cond.code yX5_init cX5_init 1 none ∈ lw_good := g_tab 230 (by decide +kernel) rfl
theorem kii5 : Cond.instanceMethod yX5_init ∈ lw_good := g_tab 229 (by decide +kernel) rfl
theorem ct6 : ∀ j, j < 2 → (TX6 j).1 = RX6 := by decide +kernel
theorem cdf6 : ∀ j, j < 2 → defaultValue (tyX6 j) = if gF 6 j = 0 then .int 0 else if gF 6 j = 1 then .long 0 else .null := by
  intro j hj
  match j, hj with
  | 0, _ => rfl
  | 1, _ => rfl
  | n + 2, h => exact absurd h (by omega)
theorem kin6 : Cond.instantiable RX6 2 ∈ lw_good := g_tab 31 (by decide +kernel) rfl
theorem kit6 : Cond.initialized RX6 ∈ lw_good := g_tab 2 (by decide +kernel) rfl
theorem kic6 : Cond.code yX6_init cX6_init 1 none ∈ lw_good := g_tab 34 (by decide +kernel) rfl
theorem kii6 : Cond.instanceMethod yX6_init ∈ lw_good := g_tab 33 (by decide +kernel) rfl
theorem ct7 : ∀ j, j < 6 → (TX7 j).1 = RX7 := by decide +kernel
theorem cdf7 : ∀ j, j < 6 → defaultValue (tyX7 j) = if gF 7 j = 0 then .int 0 else if gF 7 j = 1 then .long 0 else .null := by
  intro j hj
  match j, hj with
  | 0, _ => rfl
  | 1, _ => rfl
  | 2, _ => rfl
  | 3, _ => rfl
  | 4, _ => rfl
  | 5, _ => rfl
  | n + 6, h => exact absurd h (by omega)
theorem kin7 : Cond.instantiable RX7 6 ∈ lw_good := g_tab 174 (by decide +kernel) rfl
theorem kit7 : Cond.initialized RX7 ∈ lw_good := g_tab 6 (by decide +kernel) rfl
theorem kic7 : Cond.code yX7_init cX7_init 2 none ∈ lw_good := g_tab 177 (by decide +kernel) rfl
theorem kii7 : Cond.instanceMethod yX7_init ∈ lw_good := g_tab 176 (by decide +kernel) rfl
theorem ct8 : ∀ j, j < 18 → (TX8 j).1 = RX8 := by decide +kernel
theorem cdf8 : ∀ j, j < 18 → defaultValue (tyX8 j) = if gF 8 j = 0 then .int 0 else if gF 8 j = 1 then .long 0 else .null := by
  intro j hj
  match j, hj with
  | 0, _ => rfl
  | 1, _ => rfl
  | 2, _ => rfl
  | 3, _ => rfl
  | 4, _ => rfl
  | 5, _ => rfl
  | 6, _ => rfl
  | 7, _ => rfl
  | 8, _ => rfl
  | 9, _ => rfl
  | 10, _ => rfl
  | 11, _ => rfl
  | 12, _ => rfl
  | 13, _ => rfl
  | 14, _ => rfl
  | 15, _ => rfl
  | 16, _ => rfl
  | 17, _ => rfl
  | n + 18, h => exact absurd h (by omega)
theorem kin8 : Cond.instantiable RX8 18 ∈ lw_good := g_tab 51 (by decide +kernel) rfl
theorem kit8 : Cond.initialized RX8 ∈ lw_good := g_tab 4 (by decide +kernel) rfl
theorem kic8 : Cond.code yX8_init cX8_init 1 none ∈ lw_good := g_tab 54 (by decide +kernel) rfl
theorem kii8 : Cond.instanceMethod yX8_init ∈ lw_good := g_tab 53 (by decide +kernel) rfl
theorem ct9 : ∀ j, j < 10 → (TX9 j).1 = RX9 := by decide +kernel
theorem cdf9 : ∀ j, j < 10 → defaultValue (tyX9 j) = if gF 9 j = 0 then .int 0 else if gF 9 j = 1 then .long 0 else .null := by
  intro j hj
  match j, hj with
  | 0, _ => rfl
  | 1, _ => rfl
  | 2, _ => rfl
  | 3, _ => rfl
  | 4, _ => rfl
  | 5, _ => rfl
  | 6, _ => rfl
  | 7, _ => rfl
  | 8, _ => rfl
  | 9, _ => rfl
  | n + 10, h => exact absurd h (by omega)
theorem kin9 : Cond.instantiable RX9 10 ∈ lw_good := g_tab 301 (by decide +kernel) rfl
theorem kit9 : Cond.initialized RX9 ∈ lw_good := g_tab 9 (by decide +kernel) rfl
theorem kic9 : Cond.code yX9_init cX9_init 1 none ∈ lw_good := g_tab 304 (by decide +kernel) rfl
theorem kii9 : Cond.instanceMethod yX9_init ∈ lw_good := g_tab 303 (by decide +kernel) rfl
theorem ct10 : ∀ j, j < 10 → (TX10 j).1 = RX10 := by decide +kernel
theorem cdf10 : ∀ j, j < 10 → defaultValue (tyX10 j) = if gF 10 j = 0 then .int 0 else if gF 10 j = 1 then .long 0 else .null := by
  intro j hj
  match j, hj with
  | 0, _ => rfl
  | 1, _ => rfl
  | 2, _ => rfl
  | 3, _ => rfl
  | 4, _ => rfl
  | 5, _ => rfl
  | 6, _ => rfl
  | 7, _ => rfl
  | 8, _ => rfl
  | 9, _ => rfl
  | n + 10, h => exact absurd h (by omega)
theorem kin10 : Cond.instantiable RX10 10 ∈ lw_good := g_tab 23 (by decide +kernel) rfl
theorem kit10 : Cond.initialized RX10 ∈ lw_good := g_tab 1 (by decide +kernel) rfl
theorem kic10 : Cond.code yX10_init cX10_init 2 none ∈ lw_good := g_tab 26 (by decide +kernel) rfl
theorem kii10 : Cond.instanceMethod yX10_init ∈ lw_good := g_tab 25 (by decide +kernel) rfl
theorem ct11 : ∀ j, j < 79 → (TX11 j).1 = RX11 := by decide +kernel
theorem cdf11 : ∀ j, j < 79 → defaultValue (tyX11 j) = if gF 11 j = 0 then .int 0 else if gF 11 j = 1 then .long 0 else .null := by
  intro j hj
  match j, hj with
  | 0, _ => rfl
  | 1, _ => rfl
  | 2, _ => rfl
  | 3, _ => rfl
  | 4, _ => rfl
  | 5, _ => rfl
  | 6, _ => rfl
  | 7, _ => rfl
  | 8, _ => rfl
  | 9, _ => rfl
  | 10, _ => rfl
  | 11, _ => rfl
  | 12, _ => rfl
  | 13, _ => rfl
  | 14, _ => rfl
  | 15, _ => rfl
  | 16, _ => rfl
  | 17, _ => rfl
  | 18, _ => rfl
  | 19, _ => rfl
  | 20, _ => rfl
  | 21, _ => rfl
  | 22, _ => rfl
  | 23, _ => rfl
  | 24, _ => rfl
  | 25, _ => rfl
  | 26, _ => rfl
  | 27, _ => rfl
  | 28, _ => rfl
  | 29, _ => rfl
  | 30, _ => rfl
  | 31, _ => rfl
  | 32, _ => rfl
  | 33, _ => rfl
  | 34, _ => rfl
  | 35, _ => rfl
  | 36, _ => rfl
  | 37, _ => rfl
  | 38, _ => rfl
  | 39, _ => rfl
  | 40, _ => rfl
  | 41, _ => rfl
  | 42, _ => rfl
  | 43, _ => rfl
  | 44, _ => rfl
  | 45, _ => rfl
  | 46, _ => rfl
  | 47, _ => rfl
  | 48, _ => rfl
  | 49, _ => rfl
  | 50, _ => rfl
  | 51, _ => rfl
  | 52, _ => rfl
  | 53, _ => rfl
  | 54, _ => rfl
  | 55, _ => rfl
  | 56, _ => rfl
  | 57, _ => rfl
  | 58, _ => rfl
  | 59, _ => rfl
  | 60, _ => rfl
  | 61, _ => rfl
  | 62, _ => rfl
  | 63, _ => rfl
  | 64, _ => rfl
  | 65, _ => rfl
  | 66, _ => rfl
  | 67, _ => rfl
  | 68, _ => rfl
  | 69, _ => rfl
  | 70, _ => rfl
  | 71, _ => rfl
  | 72, _ => rfl
  | 73, _ => rfl
  | 74, _ => rfl
  | 75, _ => rfl
  | 76, _ => rfl
  | 77, _ => rfl
  | 78, _ => rfl
  | n + 79, h => exact absurd h (by omega)
theorem kin11 : Cond.instantiable RX11 79 ∈ lw_good := g_tab 1246 (by decide +kernel) rfl
theorem kit11 : Cond.initialized RX11 ∈ lw_good := g_tab 14 (by decide +kernel) rfl
theorem kic11 : Cond.code yX11_init cX11_init 1 none ∈ lw_good := g_tab 1249 (by decide +kernel) rfl
theorem kii11 : Cond.instanceMethod yX11_init ∈ lw_good := g_tab 1248 (by decide +kernel) rfl
theorem kcl_L_7 : Cond.classLink "CradleTreatyLaw" 7 RX10 ∈ lw_good := g_tab 22 (by decide +kernel) rfl
theorem kcl_X10_7 : Cond.classLink RX10 7 RX6 ∈ lw_good := g_tab 30 (by decide +kernel) rfl
theorem kcl_X10_16 : Cond.classLink RX10 16 RX4 ∈ lw_good := g_tab 44 (by decide +kernel) rfl
theorem kcl_X4_9 : Cond.classLink RX4 9 RX8 ∈ lw_good := g_tab 50 (by decide +kernel) rfl
theorem kcl_X8_46 : Cond.classLink RX8 46 RX0 ∈ lw_good := g_tab 56 (by decide +kernel) rfl
theorem kcl_X4_35 : Cond.classLink RX4 35 RX7 ∈ lw_good := g_tab 173 (by decide +kernel) rfl
theorem kcl_X10_25 : Cond.classLink RX10 25 RX5 ∈ lw_good := g_tab 226 (by decide +kernel) rfl
theorem kcl_X10_32 : Cond.classLink RX10 32 RX1 ∈ lw_good := g_tab 279 (by decide +kernel) rfl
theorem kcl_X1_9 : Cond.classLink RX1 9 RX5 ∈ lw_good := g_tab 285 (by decide +kernel) rfl
theorem kcl_X10_47 : Cond.classLink RX10 47 RX9 ∈ lw_good := g_tab 300 (by decide +kernel) rfl
theorem kcl_X9_18 : Cond.classLink RX9 18 "[[I" ∈ lw_good := g_tab 306 (by decide +kernel) rfl
theorem kcl_X10_54 : Cond.classLink RX10 54 RX3 ∈ lw_good := g_tab 343 (by decide +kernel) rfl
theorem kcl_X10_61 : Cond.classLink RX10 61 RX2 ∈ lw_good := g_tab 353 (by decide +kernel) rfl
theorem kcl_X2_37 : Cond.classLink RX2 37 "[[I" ∈ lw_good := g_tab 359 (by decide +kernel) rfl
theorem kcl_X10_68 : Cond.classLink RX10 68 RX8 ∈ lw_good := g_tab 399 (by decide +kernel) rfl
theorem kcl_L_10 : Cond.classLink "CradleTreatyLaw" 10 RX11 ∈ lw_good := g_tab 1245 (by decide +kernel) rfl
theorem kg_X6_11 : Cond.fieldLink RX6 11 (TX6 0).1 (TX6 0).2.1 (TX6 0).2.2.1 ∈ lw_good := g_tab 36 (by decide +kernel) rfl
theorem kg_X6_15 : Cond.fieldLink RX6 15 (TX6 1).1 (TX6 1).2.1 (TX6 1).2.2.1 ∈ lw_good := g_tab 37 (by decide +kernel) rfl
theorem kg_X0_9 : Cond.fieldLink RX0 9 (TX0 0).1 (TX0 0).2.1 (TX0 0).2.2.1 ∈ lw_good := g_tab 62 (by decide +kernel) rfl
theorem kg_X0_13 : Cond.fieldLink RX0 13 (TX0 1).1 (TX0 1).2.1 (TX0 1).2.2.1 ∈ lw_good := g_tab 63 (by decide +kernel) rfl
theorem kg_X0_16 : Cond.fieldLink RX0 16 (TX0 2).1 (TX0 2).2.1 (TX0 2).2.2.1 ∈ lw_good := g_tab 64 (by decide +kernel) rfl
theorem kg_X0_20 : Cond.fieldLink RX0 20 (TX0 3).1 (TX0 3).2.1 (TX0 3).2.2.1 ∈ lw_good := g_tab 65 (by decide +kernel) rfl
theorem kg_X0_23 : Cond.fieldLink RX0 23 (TX0 4).1 (TX0 4).2.1 (TX0 4).2.2.1 ∈ lw_good := g_tab 68 (by decide +kernel) rfl
theorem kg_X8_9 : Cond.fieldLink RX8 9 (TX8 0).1 (TX8 0).2.1 (TX8 0).2.2.1 ∈ lw_good := g_tab 82 (by decide +kernel) rfl
theorem kg_X8_15 : Cond.fieldLink RX8 15 (TX8 1).1 (TX8 1).2.1 (TX8 1).2.2.1 ∈ lw_good := g_tab 83 (by decide +kernel) rfl
theorem kg_X8_18 : Cond.fieldLink RX8 18 (TX8 2).1 (TX8 2).2.1 (TX8 2).2.2.1 ∈ lw_good := g_tab 84 (by decide +kernel) rfl
theorem kg_X8_22 : Cond.fieldLink RX8 22 (TX8 3).1 (TX8 3).2.1 (TX8 3).2.2.1 ∈ lw_good := g_tab 86 (by decide +kernel) rfl
theorem kg_X8_25 : Cond.fieldLink RX8 25 (TX8 4).1 (TX8 4).2.1 (TX8 4).2.2.1 ∈ lw_good := g_tab 88 (by decide +kernel) rfl
theorem kg_X8_28 : Cond.fieldLink RX8 28 (TX8 5).1 (TX8 5).2.1 (TX8 5).2.2.1 ∈ lw_good := g_tab 91 (by decide +kernel) rfl
theorem kg_X8_31 : Cond.fieldLink RX8 31 (TX8 6).1 (TX8 6).2.1 (TX8 6).2.2.1 ∈ lw_good := g_tab 92 (by decide +kernel) rfl
theorem kg_X8_34 : Cond.fieldLink RX8 34 (TX8 7).1 (TX8 7).2.1 (TX8 7).2.2.1 ∈ lw_good := g_tab 96 (by decide +kernel) rfl
theorem kg_X8_37 : Cond.fieldLink RX8 37 (TX8 8).1 (TX8 8).2.1 (TX8 8).2.2.1 ∈ lw_good := g_tab 101 (by decide +kernel) rfl
theorem kg_X8_40 : Cond.fieldLink RX8 40 (TX8 9).1 (TX8 9).2.1 (TX8 9).2.2.1 ∈ lw_good := g_tab 104 (by decide +kernel) rfl
theorem kg_X8_43 : Cond.fieldLink RX8 43 (TX8 10).1 (TX8 10).2.1 (TX8 10).2.2.1 ∈ lw_good := g_tab 106 (by decide +kernel) rfl
theorem kg_X8_49 : Cond.fieldLink RX8 49 (TX8 11).1 (TX8 11).2.1 (TX8 11).2.2.1 ∈ lw_good := g_tab 109 (by decide +kernel) rfl
theorem kg_X8_53 : Cond.fieldLink RX8 53 (TX8 12).1 (TX8 12).2.1 (TX8 12).2.2.1 ∈ lw_good := g_tab 112 (by decide +kernel) rfl
theorem kg_X8_57 : Cond.fieldLink RX8 57 (TX8 13).1 (TX8 13).2.1 (TX8 13).2.2.1 ∈ lw_good := g_tab 118 (by decide +kernel) rfl
theorem kg_X8_60 : Cond.fieldLink RX8 60 (TX8 14).1 (TX8 14).2.1 (TX8 14).2.2.1 ∈ lw_good := g_tab 123 (by decide +kernel) rfl
theorem kg_X8_63 : Cond.fieldLink RX8 63 (TX8 15).1 (TX8 15).2.1 (TX8 15).2.2.1 ∈ lw_good := g_tab 128 (by decide +kernel) rfl
theorem kg_X8_66 : Cond.fieldLink RX8 66 (TX8 16).1 (TX8 16).2.1 (TX8 16).2.2.1 ∈ lw_good := g_tab 130 (by decide +kernel) rfl
theorem kg_X8_69 : Cond.fieldLink RX8 69 (TX8 17).1 (TX8 17).2.1 (TX8 17).2.2.1 ∈ lw_good := g_tab 133 (by decide +kernel) rfl
theorem kg_X7_28 : Cond.fieldLink RX7 28 (TX7 0).1 (TX7 0).2.1 (TX7 0).2.2.1 ∈ lw_good := g_tab 179 (by decide +kernel) rfl
theorem kg_X7_9 : Cond.fieldLink RX7 9 (TX7 1).1 (TX7 1).2.1 (TX7 1).2.2.1 ∈ lw_good := g_tab 180 (by decide +kernel) rfl
theorem kg_X7_15 : Cond.fieldLink RX7 15 (TX7 2).1 (TX7 2).2.1 (TX7 2).2.2.1 ∈ lw_good := g_tab 181 (by decide +kernel) rfl
theorem kg_X7_18 : Cond.fieldLink RX7 18 (TX7 3).1 (TX7 3).2.1 (TX7 3).2.2.1 ∈ lw_good := g_tab 183 (by decide +kernel) rfl
theorem kg_X7_21 : Cond.fieldLink RX7 21 (TX7 4).1 (TX7 4).2.1 (TX7 4).2.2.1 ∈ lw_good := g_tab 185 (by decide +kernel) rfl
theorem kg_X7_24 : Cond.fieldLink RX7 24 (TX7 5).1 (TX7 5).2.1 (TX7 5).2.2.1 ∈ lw_good := g_tab 187 (by decide +kernel) rfl
theorem kg_X4_40 : Cond.fieldLink RX4 40 (TX4 0).1 (TX4 0).2.1 (TX4 0).2.2.1 ∈ lw_good := g_tab 202 (by decide +kernel) rfl
theorem kg_X4_12 : Cond.fieldLink RX4 12 (TX4 1).1 (TX4 1).2.1 (TX4 1).2.2.1 ∈ lw_good := g_tab 203 (by decide +kernel) rfl
theorem kg_X4_18 : Cond.fieldLink RX4 18 (TX4 2).1 (TX4 2).2.1 (TX4 2).2.2.1 ∈ lw_good := g_tab 204 (by decide +kernel) rfl
theorem kg_X4_22 : Cond.fieldLink RX4 22 (TX4 3).1 (TX4 3).2.1 (TX4 3).2.2.1 ∈ lw_good := g_tab 205 (by decide +kernel) rfl
theorem kg_X4_25 : Cond.fieldLink RX4 25 (TX4 4).1 (TX4 4).2.1 (TX4 4).2.2.1 ∈ lw_good := g_tab 206 (by decide +kernel) rfl
theorem kg_X4_29 : Cond.fieldLink RX4 29 (TX4 5).1 (TX4 5).2.1 (TX4 5).2.2.1 ∈ lw_good := g_tab 207 (by decide +kernel) rfl
theorem kg_X4_32 : Cond.fieldLink RX4 32 (TX4 6).1 (TX4 6).2.1 (TX4 6).2.2.1 ∈ lw_good := g_tab 209 (by decide +kernel) rfl
theorem kg_X5_9 : Cond.fieldLink RX5 9 (TX5 0).1 (TX5 0).2.1 (TX5 0).2.2.1 ∈ lw_good := g_tab 232 (by decide +kernel) rfl
theorem kg_X5_15 : Cond.fieldLink RX5 15 (TX5 1).1 (TX5 1).2.1 (TX5 1).2.2.1 ∈ lw_good := g_tab 234 (by decide +kernel) rfl
theorem kg_X5_18 : Cond.fieldLink RX5 18 (TX5 2).1 (TX5 2).2.1 (TX5 2).2.2.1 ∈ lw_good := g_tab 236 (by decide +kernel) rfl
theorem kg_X5_22 : Cond.fieldLink RX5 22 (TX5 3).1 (TX5 3).2.1 (TX5 3).2.2.1 ∈ lw_good := g_tab 239 (by decide +kernel) rfl
theorem kg_X5_25 : Cond.fieldLink RX5 25 (TX5 4).1 (TX5 4).2.1 (TX5 4).2.2.1 ∈ lw_good := g_tab 243 (by decide +kernel) rfl
theorem kg_X5_28 : Cond.fieldLink RX5 28 (TX5 5).1 (TX5 5).2.1 (TX5 5).2.2.1 ∈ lw_good := g_tab 246 (by decide +kernel) rfl
theorem kg_X5_31 : Cond.fieldLink RX5 31 (TX5 6).1 (TX5 6).2.1 (TX5 6).2.2.1 ∈ lw_good := g_tab 249 (by decide +kernel) rfl
theorem kg_X5_34 : Cond.fieldLink RX5 34 (TX5 7).1 (TX5 7).2.1 (TX5 7).2.2.1 ∈ lw_good := g_tab 251 (by decide +kernel) rfl
theorem kg_X5_37 : Cond.fieldLink RX5 37 (TX5 8).1 (TX5 8).2.1 (TX5 8).2.2.1 ∈ lw_good := g_tab 253 (by decide +kernel) rfl
theorem kg_X5_40 : Cond.fieldLink RX5 40 (TX5 9).1 (TX5 9).2.1 (TX5 9).2.2.1 ∈ lw_good := g_tab 256 (by decide +kernel) rfl
theorem kg_X1_11 : Cond.fieldLink RX1 11 (TX1 0).1 (TX1 0).2.1 (TX1 0).2.2.1 ∈ lw_good := g_tab 288 (by decide +kernel) rfl
theorem kg_X1_15 : Cond.fieldLink RX1 15 (TX1 1).1 (TX1 1).2.1 (TX1 1).2.2.1 ∈ lw_good := g_tab 289 (by decide +kernel) rfl
theorem kg_X1_19 : Cond.fieldLink RX1 19 (TX1 2).1 (TX1 2).2.1 (TX1 2).2.2.1 ∈ lw_good := g_tab 291 (by decide +kernel) rfl
theorem kg_X9_9 : Cond.fieldLink RX9 9 (TX9 0).1 (TX9 0).2.1 (TX9 0).2.2.1 ∈ lw_good := g_tab 308 (by decide +kernel) rfl
theorem kg_X9_15 : Cond.fieldLink RX9 15 (TX9 1).1 (TX9 1).2.1 (TX9 1).2.2.1 ∈ lw_good := g_tab 309 (by decide +kernel) rfl
theorem kg_X9_20 : Cond.fieldLink RX9 20 (TX9 2).1 (TX9 2).2.1 (TX9 2).2.2.1 ∈ lw_good := g_tab 310 (by decide +kernel) rfl
theorem kg_X9_23 : Cond.fieldLink RX9 23 (TX9 3).1 (TX9 3).2.1 (TX9 3).2.2.1 ∈ lw_good := g_tab 311 (by decide +kernel) rfl
theorem kg_X9_26 : Cond.fieldLink RX9 26 (TX9 4).1 (TX9 4).2.1 (TX9 4).2.2.1 ∈ lw_good := g_tab 312 (by decide +kernel) rfl
theorem kg_X9_29 : Cond.fieldLink RX9 29 (TX9 5).1 (TX9 5).2.1 (TX9 5).2.2.1 ∈ lw_good := g_tab 313 (by decide +kernel) rfl
theorem kg_X9_32 : Cond.fieldLink RX9 32 (TX9 6).1 (TX9 6).2.1 (TX9 6).2.2.1 ∈ lw_good := g_tab 314 (by decide +kernel) rfl
theorem kg_X9_35 : Cond.fieldLink RX9 35 (TX9 7).1 (TX9 7).2.1 (TX9 7).2.2.1 ∈ lw_good := g_tab 315 (by decide +kernel) rfl
theorem kg_X9_39 : Cond.fieldLink RX9 39 (TX9 8).1 (TX9 8).2.1 (TX9 8).2.2.1 ∈ lw_good := g_tab 317 (by decide +kernel) rfl
theorem kg_X9_42 : Cond.fieldLink RX9 42 (TX9 9).1 (TX9 9).2.1 (TX9 9).2.2.1 ∈ lw_good := g_tab 319 (by decide +kernel) rfl
theorem kg_X3_9 : Cond.fieldLink RX3 9 (TX3 0).1 (TX3 0).2.1 (TX3 0).2.2.1 ∈ lw_good := g_tab 349 (by decide +kernel) rfl
theorem kg_X2_11 : Cond.fieldLink RX2 11 (TX2 0).1 (TX2 0).2.1 (TX2 0).2.2.1 ∈ lw_good := g_tab 360 (by decide +kernel) rfl
theorem kg_X2_15 : Cond.fieldLink RX2 15 (TX2 1).1 (TX2 1).2.1 (TX2 1).2.2.1 ∈ lw_good := g_tab 361 (by decide +kernel) rfl
theorem kg_X2_18 : Cond.fieldLink RX2 18 (TX2 2).1 (TX2 2).2.1 (TX2 2).2.2.1 ∈ lw_good := g_tab 362 (by decide +kernel) rfl
theorem kg_X2_22 : Cond.fieldLink RX2 22 (TX2 3).1 (TX2 3).2.1 (TX2 3).2.2.1 ∈ lw_good := g_tab 363 (by decide +kernel) rfl
theorem kg_X2_25 : Cond.fieldLink RX2 25 (TX2 4).1 (TX2 4).2.1 (TX2 4).2.2.1 ∈ lw_good := g_tab 364 (by decide +kernel) rfl
theorem kg_X2_28 : Cond.fieldLink RX2 28 (TX2 5).1 (TX2 5).2.1 (TX2 5).2.2.1 ∈ lw_good := g_tab 365 (by decide +kernel) rfl
theorem kg_X2_31 : Cond.fieldLink RX2 31 (TX2 6).1 (TX2 6).2.1 (TX2 6).2.2.1 ∈ lw_good := g_tab 366 (by decide +kernel) rfl
theorem kg_X2_34 : Cond.fieldLink RX2 34 (TX2 7).1 (TX2 7).2.1 (TX2 7).2.2.1 ∈ lw_good := g_tab 367 (by decide +kernel) rfl
theorem kg_X2_39 : Cond.fieldLink RX2 39 (TX2 8).1 (TX2 8).2.1 (TX2 8).2.2.1 ∈ lw_good := g_tab 368 (by decide +kernel) rfl
theorem kg_X2_42 : Cond.fieldLink RX2 42 (TX2 9).1 (TX2 9).2.1 (TX2 9).2.2.1 ∈ lw_good := g_tab 369 (by decide +kernel) rfl
theorem kg_X2_45 : Cond.fieldLink RX2 45 (TX2 10).1 (TX2 10).2.1 (TX2 10).2.2.1 ∈ lw_good := g_tab 370 (by decide +kernel) rfl
theorem kg_X2_49 : Cond.fieldLink RX2 49 (TX2 11).1 (TX2 11).2.1 (TX2 11).2.2.1 ∈ lw_good := g_tab 372 (by decide +kernel) rfl
theorem kg_X10_10 : Cond.fieldLink RX10 10 (TX10 0).1 (TX10 0).2.1 (TX10 0).2.2.1 ∈ lw_good := g_tab 431 (by decide +kernel) rfl
theorem kg_X10_21 : Cond.fieldLink RX10 21 (TX10 1).1 (TX10 1).2.1 (TX10 1).2.2.1 ∈ lw_good := g_tab 432 (by decide +kernel) rfl
theorem kg_X10_28 : Cond.fieldLink RX10 28 (TX10 2).1 (TX10 2).2.1 (TX10 2).2.2.1 ∈ lw_good := g_tab 433 (by decide +kernel) rfl
theorem kg_X10_35 : Cond.fieldLink RX10 35 (TX10 3).1 (TX10 3).2.1 (TX10 3).2.2.1 ∈ lw_good := g_tab 434 (by decide +kernel) rfl
theorem kg_X10_39 : Cond.fieldLink RX10 39 (TX10 4).1 (TX10 4).2.1 (TX10 4).2.2.1 ∈ lw_good := g_tab 435 (by decide +kernel) rfl
theorem kg_X10_43 : Cond.fieldLink RX10 43 (TX10 5).1 (TX10 5).2.1 (TX10 5).2.2.1 ∈ lw_good := g_tab 436 (by decide +kernel) rfl
theorem kg_X10_50 : Cond.fieldLink RX10 50 (TX10 6).1 (TX10 6).2.1 (TX10 6).2.2.1 ∈ lw_good := g_tab 437 (by decide +kernel) rfl
theorem kg_X10_57 : Cond.fieldLink RX10 57 (TX10 7).1 (TX10 7).2.1 (TX10 7).2.2.1 ∈ lw_good := g_tab 438 (by decide +kernel) rfl
theorem kg_X10_64 : Cond.fieldLink RX10 64 (TX10 8).1 (TX10 8).2.1 (TX10 8).2.2.1 ∈ lw_good := g_tab 439 (by decide +kernel) rfl
theorem kg_X10_71 : Cond.fieldLink RX10 71 (TX10 9).1 (TX10 9).2.1 (TX10 9).2.2.1 ∈ lw_good := g_tab 440 (by decide +kernel) rfl
theorem kg_X11_7 : Cond.fieldLink RX11 7 (TX11 0).1 (TX11 0).2.1 (TX11 0).2.2.1 ∈ lw_good := g_tab 1251 (by decide +kernel) rfl
theorem kg_X11_157 : Cond.fieldLink RX11 157 (TX11 1).1 (TX11 1).2.1 (TX11 1).2.2.1 ∈ lw_good := g_tab 1252 (by decide +kernel) rfl
theorem kg_X11_197 : Cond.fieldLink RX11 197 (TX11 2).1 (TX11 2).2.1 (TX11 2).2.2.1 ∈ lw_good := g_tab 1253 (by decide +kernel) rfl
theorem kg_X11_13 : Cond.fieldLink RX11 13 (TX11 3).1 (TX11 3).2.1 (TX11 3).2.2.1 ∈ lw_good := g_tab 1254 (by decide +kernel) rfl
theorem kg_X11_164 : Cond.fieldLink RX11 164 (TX11 4).1 (TX11 4).2.1 (TX11 4).2.2.1 ∈ lw_good := g_tab 1255 (by decide +kernel) rfl
theorem kg_X11_167 : Cond.fieldLink RX11 167 (TX11 5).1 (TX11 5).2.1 (TX11 5).2.2.1 ∈ lw_good := g_tab 1256 (by decide +kernel) rfl
theorem kg_X11_184 : Cond.fieldLink RX11 184 (TX11 6).1 (TX11 6).2.1 (TX11 6).2.2.1 ∈ lw_good := g_tab 1257 (by decide +kernel) rfl
theorem kg_X11_174 : Cond.fieldLink RX11 174 (TX11 7).1 (TX11 7).2.1 (TX11 7).2.2.1 ∈ lw_good := g_tab 1258 (by decide +kernel) rfl
theorem kg_X11_181 : Cond.fieldLink RX11 181 (TX11 8).1 (TX11 8).2.1 (TX11 8).2.2.1 ∈ lw_good := g_tab 1259 (by decide +kernel) rfl
theorem kg_X11_177 : Cond.fieldLink RX11 177 (TX11 9).1 (TX11 9).2.1 (TX11 9).2.2.1 ∈ lw_good := g_tab 1260 (by decide +kernel) rfl
theorem kg_X11_17 : Cond.fieldLink RX11 17 (TX11 10).1 (TX11 10).2.1 (TX11 10).2.2.1 ∈ lw_good := g_tab 1261 (by decide +kernel) rfl
theorem kg_X11_21 : Cond.fieldLink RX11 21 (TX11 11).1 (TX11 11).2.1 (TX11 11).2.2.1 ∈ lw_good := g_tab 1262 (by decide +kernel) rfl
theorem kg_X11_24 : Cond.fieldLink RX11 24 (TX11 12).1 (TX11 12).2.1 (TX11 12).2.2.1 ∈ lw_good := g_tab 1263 (by decide +kernel) rfl
theorem kg_X11_27 : Cond.fieldLink RX11 27 (TX11 13).1 (TX11 13).2.1 (TX11 13).2.2.1 ∈ lw_good := g_tab 1264 (by decide +kernel) rfl
theorem kg_X11_30 : Cond.fieldLink RX11 30 (TX11 14).1 (TX11 14).2.1 (TX11 14).2.2.1 ∈ lw_good := g_tab 1265 (by decide +kernel) rfl
theorem kg_X11_33 : Cond.fieldLink RX11 33 (TX11 15).1 (TX11 15).2.1 (TX11 15).2.2.1 ∈ lw_good := g_tab 1266 (by decide +kernel) rfl
theorem kg_X11_36 : Cond.fieldLink RX11 36 (TX11 16).1 (TX11 16).2.1 (TX11 16).2.2.1 ∈ lw_good := g_tab 1267 (by decide +kernel) rfl
theorem kg_X11_272 : Cond.fieldLink RX11 272 (TX11 17).1 (TX11 17).2.1 (TX11 17).2.2.1 ∈ lw_good := g_tab 1268 (by decide +kernel) rfl
theorem kg_X11_329 : Cond.fieldLink RX11 329 (TX11 18).1 (TX11 18).2.1 (TX11 18).2.2.1 ∈ lw_good := g_tab 1269 (by decide +kernel) rfl
theorem kg_X11_275 : Cond.fieldLink RX11 275 (TX11 19).1 (TX11 19).2.1 (TX11 19).2.2.1 ∈ lw_good := g_tab 1270 (by decide +kernel) rfl
theorem kg_X11_288 : Cond.fieldLink RX11 288 (TX11 20).1 (TX11 20).2.1 (TX11 20).2.2.1 ∈ lw_good := g_tab 1271 (by decide +kernel) rfl
theorem kg_X11_401 : Cond.fieldLink RX11 401 (TX11 21).1 (TX11 21).2.1 (TX11 21).2.2.1 ∈ lw_good := g_tab 1272 (by decide +kernel) rfl
theorem kg_X11_291 : Cond.fieldLink RX11 291 (TX11 22).1 (TX11 22).2.1 (TX11 22).2.2.1 ∈ lw_good := g_tab 1273 (by decide +kernel) rfl
theorem kg_X11_285 : Cond.fieldLink RX11 285 (TX11 23).1 (TX11 23).2.1 (TX11 23).2.2.1 ∈ lw_good := g_tab 1274 (by decide +kernel) rfl
theorem kg_X11_39 : Cond.fieldLink RX11 39 (TX11 24).1 (TX11 24).2.1 (TX11 24).2.2.1 ∈ lw_good := g_tab 1275 (by decide +kernel) rfl
theorem kg_X11_42 : Cond.fieldLink RX11 42 (TX11 25).1 (TX11 25).2.1 (TX11 25).2.2.1 ∈ lw_good := g_tab 1276 (by decide +kernel) rfl
theorem kg_X11_45 : Cond.fieldLink RX11 45 (TX11 26).1 (TX11 26).2.1 (TX11 26).2.2.1 ∈ lw_good := g_tab 1277 (by decide +kernel) rfl
theorem kg_X11_48 : Cond.fieldLink RX11 48 (TX11 27).1 (TX11 27).2.1 (TX11 27).2.2.1 ∈ lw_good := g_tab 1278 (by decide +kernel) rfl
theorem kg_X11_51 : Cond.fieldLink RX11 51 (TX11 28).1 (TX11 28).2.1 (TX11 28).2.2.1 ∈ lw_good := g_tab 1279 (by decide +kernel) rfl
theorem kg_X11_54 : Cond.fieldLink RX11 54 (TX11 29).1 (TX11 29).2.1 (TX11 29).2.2.1 ∈ lw_good := g_tab 1280 (by decide +kernel) rfl
theorem kg_X11_57 : Cond.fieldLink RX11 57 (TX11 30).1 (TX11 30).2.1 (TX11 30).2.2.1 ∈ lw_good := g_tab 1281 (by decide +kernel) rfl
theorem kg_X11_60 : Cond.fieldLink RX11 60 (TX11 31).1 (TX11 31).2.1 (TX11 31).2.2.1 ∈ lw_good := g_tab 1282 (by decide +kernel) rfl
theorem kg_X11_63 : Cond.fieldLink RX11 63 (TX11 32).1 (TX11 32).2.1 (TX11 32).2.2.1 ∈ lw_good := g_tab 1283 (by decide +kernel) rfl
theorem kg_X11_66 : Cond.fieldLink RX11 66 (TX11 33).1 (TX11 33).2.1 (TX11 33).2.2.1 ∈ lw_good := g_tab 1284 (by decide +kernel) rfl
theorem kg_X11_69 : Cond.fieldLink RX11 69 (TX11 34).1 (TX11 34).2.1 (TX11 34).2.2.1 ∈ lw_good := g_tab 1285 (by decide +kernel) rfl
theorem kg_X11_72 : Cond.fieldLink RX11 72 (TX11 35).1 (TX11 35).2.1 (TX11 35).2.2.1 ∈ lw_good := g_tab 1286 (by decide +kernel) rfl
theorem kg_X11_75 : Cond.fieldLink RX11 75 (TX11 36).1 (TX11 36).2.1 (TX11 36).2.2.1 ∈ lw_good := g_tab 1287 (by decide +kernel) rfl
theorem kg_X11_78 : Cond.fieldLink RX11 78 (TX11 37).1 (TX11 37).2.1 (TX11 37).2.2.1 ∈ lw_good := g_tab 1288 (by decide +kernel) rfl
theorem kg_X11_81 : Cond.fieldLink RX11 81 (TX11 38).1 (TX11 38).2.1 (TX11 38).2.2.1 ∈ lw_good := g_tab 1289 (by decide +kernel) rfl
theorem kg_X11_84 : Cond.fieldLink RX11 84 (TX11 39).1 (TX11 39).2.1 (TX11 39).2.2.1 ∈ lw_good := g_tab 1290 (by decide +kernel) rfl
theorem kg_X11_87 : Cond.fieldLink RX11 87 (TX11 40).1 (TX11 40).2.1 (TX11 40).2.2.1 ∈ lw_good := g_tab 1291 (by decide +kernel) rfl
theorem kg_X11_90 : Cond.fieldLink RX11 90 (TX11 41).1 (TX11 41).2.1 (TX11 41).2.2.1 ∈ lw_good := g_tab 1292 (by decide +kernel) rfl
theorem kg_X11_94 : Cond.fieldLink RX11 94 (TX11 42).1 (TX11 42).2.1 (TX11 42).2.2.1 ∈ lw_good := g_tab 1293 (by decide +kernel) rfl
theorem kg_X11_266 : Cond.fieldLink RX11 266 (TX11 43).1 (TX11 43).2.1 (TX11 43).2.2.1 ∈ lw_good := g_tab 1294 (by decide +kernel) rfl
theorem kg_X11_339 : Cond.fieldLink RX11 339 (TX11 44).1 (TX11 44).2.1 (TX11 44).2.2.1 ∈ lw_good := g_tab 1295 (by decide +kernel) rfl
theorem kg_X11_349 : Cond.fieldLink RX11 349 (TX11 45).1 (TX11 45).2.1 (TX11 45).2.2.1 ∈ lw_good := g_tab 1296 (by decide +kernel) rfl
theorem kg_X11_377 : Cond.fieldLink RX11 377 (TX11 46).1 (TX11 46).2.1 (TX11 46).2.2.1 ∈ lw_good := g_tab 1297 (by decide +kernel) rfl
theorem kg_X11_383 : Cond.fieldLink RX11 383 (TX11 47).1 (TX11 47).2.1 (TX11 47).2.2.1 ∈ lw_good := g_tab 1298 (by decide +kernel) rfl
theorem kg_X11_392 : Cond.fieldLink RX11 392 (TX11 48).1 (TX11 48).2.1 (TX11 48).2.2.1 ∈ lw_good := g_tab 1299 (by decide +kernel) rfl
theorem kg_X11_395 : Cond.fieldLink RX11 395 (TX11 49).1 (TX11 49).2.1 (TX11 49).2.2.1 ∈ lw_good := g_tab 1300 (by decide +kernel) rfl
theorem kg_X11_398 : Cond.fieldLink RX11 398 (TX11 50).1 (TX11 50).2.1 (TX11 50).2.2.1 ∈ lw_good := g_tab 1301 (by decide +kernel) rfl
theorem kg_X11_97 : Cond.fieldLink RX11 97 (TX11 51).1 (TX11 51).2.1 (TX11 51).2.2.1 ∈ lw_good := g_tab 1302 (by decide +kernel) rfl
theorem kg_X11_367 : Cond.fieldLink RX11 367 (TX11 52).1 (TX11 52).2.1 (TX11 52).2.2.1 ∈ lw_good := g_tab 1303 (by decide +kernel) rfl
theorem kg_X11_374 : Cond.fieldLink RX11 374 (TX11 53).1 (TX11 53).2.1 (TX11 53).2.2.1 ∈ lw_good := g_tab 1304 (by decide +kernel) rfl
theorem kg_X11_380 : Cond.fieldLink RX11 380 (TX11 54).1 (TX11 54).2.1 (TX11 54).2.2.1 ∈ lw_good := g_tab 1305 (by decide +kernel) rfl
theorem kg_X11_100 : Cond.fieldLink RX11 100 (TX11 55).1 (TX11 55).2.1 (TX11 55).2.2.1 ∈ lw_good := g_tab 1306 (by decide +kernel) rfl
theorem kg_X11_103 : Cond.fieldLink RX11 103 (TX11 56).1 (TX11 56).2.1 (TX11 56).2.2.1 ∈ lw_good := g_tab 1307 (by decide +kernel) rfl
theorem kg_X11_106 : Cond.fieldLink RX11 106 (TX11 57).1 (TX11 57).2.1 (TX11 57).2.2.1 ∈ lw_good := g_tab 1308 (by decide +kernel) rfl
theorem kg_X11_404 : Cond.fieldLink RX11 404 (TX11 58).1 (TX11 58).2.1 (TX11 58).2.2.1 ∈ lw_good := g_tab 1309 (by decide +kernel) rfl
theorem kg_X11_407 : Cond.fieldLink RX11 407 (TX11 59).1 (TX11 59).2.1 (TX11 59).2.2.1 ∈ lw_good := g_tab 1310 (by decide +kernel) rfl
theorem kg_X11_109 : Cond.fieldLink RX11 109 (TX11 60).1 (TX11 60).2.1 (TX11 60).2.2.1 ∈ lw_good := g_tab 1311 (by decide +kernel) rfl
theorem kg_X11_112 : Cond.fieldLink RX11 112 (TX11 61).1 (TX11 61).2.1 (TX11 61).2.2.1 ∈ lw_good := g_tab 1312 (by decide +kernel) rfl
theorem kg_X11_413 : Cond.fieldLink RX11 413 (TX11 62).1 (TX11 62).2.1 (TX11 62).2.2.1 ∈ lw_good := g_tab 1313 (by decide +kernel) rfl
theorem kg_X11_115 : Cond.fieldLink RX11 115 (TX11 63).1 (TX11 63).2.1 (TX11 63).2.2.1 ∈ lw_good := g_tab 1314 (by decide +kernel) rfl
theorem kg_X11_118 : Cond.fieldLink RX11 118 (TX11 64).1 (TX11 64).2.1 (TX11 64).2.2.1 ∈ lw_good := g_tab 1315 (by decide +kernel) rfl
theorem kg_X11_121 : Cond.fieldLink RX11 121 (TX11 65).1 (TX11 65).2.1 (TX11 65).2.2.1 ∈ lw_good := g_tab 1316 (by decide +kernel) rfl
theorem kg_X11_124 : Cond.fieldLink RX11 124 (TX11 66).1 (TX11 66).2.1 (TX11 66).2.2.1 ∈ lw_good := g_tab 1317 (by decide +kernel) rfl
theorem kg_X11_127 : Cond.fieldLink RX11 127 (TX11 67).1 (TX11 67).2.1 (TX11 67).2.2.1 ∈ lw_good := g_tab 1318 (by decide +kernel) rfl
theorem kg_X11_130 : Cond.fieldLink RX11 130 (TX11 68).1 (TX11 68).2.1 (TX11 68).2.2.1 ∈ lw_good := g_tab 1319 (by decide +kernel) rfl
theorem kg_X11_133 : Cond.fieldLink RX11 133 (TX11 69).1 (TX11 69).2.1 (TX11 69).2.2.1 ∈ lw_good := g_tab 1320 (by decide +kernel) rfl
theorem kg_X11_136 : Cond.fieldLink RX11 136 (TX11 70).1 (TX11 70).2.1 (TX11 70).2.2.1 ∈ lw_good := g_tab 1321 (by decide +kernel) rfl
theorem kg_X11_139 : Cond.fieldLink RX11 139 (TX11 71).1 (TX11 71).2.1 (TX11 71).2.2.1 ∈ lw_good := g_tab 1322 (by decide +kernel) rfl
theorem kg_X11_142 : Cond.fieldLink RX11 142 (TX11 72).1 (TX11 72).2.1 (TX11 72).2.2.1 ∈ lw_good := g_tab 1323 (by decide +kernel) rfl
theorem kg_X11_410 : Cond.fieldLink RX11 410 (TX11 73).1 (TX11 73).2.1 (TX11 73).2.2.1 ∈ lw_good := g_tab 1324 (by decide +kernel) rfl
theorem kg_X11_511 : Cond.fieldLink RX11 511 (TX11 74).1 (TX11 74).2.1 (TX11 74).2.2.1 ∈ lw_good := g_tab 1325 (by decide +kernel) rfl
theorem kg_X11_145 : Cond.fieldLink RX11 145 (TX11 75).1 (TX11 75).2.1 (TX11 75).2.2.1 ∈ lw_good := g_tab 1326 (by decide +kernel) rfl
theorem kg_X11_148 : Cond.fieldLink RX11 148 (TX11 76).1 (TX11 76).2.1 (TX11 76).2.2.1 ∈ lw_good := g_tab 1327 (by decide +kernel) rfl
theorem kg_X11_151 : Cond.fieldLink RX11 151 (TX11 77).1 (TX11 77).2.1 (TX11 77).2.2.1 ∈ lw_good := g_tab 1328 (by decide +kernel) rfl
theorem kg_X11_154 : Cond.fieldLink RX11 154 (TX11 78).1 (TX11 78).2.1 (TX11 78).2.2.1 ∈ lw_good := g_tab 1329 (by decide +kernel) rfl
