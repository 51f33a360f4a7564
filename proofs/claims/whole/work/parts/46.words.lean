theorem w_0427bb3406 : Cond.selects "TinyForgeModel" ⟨"TinyForgeModel", "where", "()I"⟩ ⟨"TinyForgeModel", "where", "()I"⟩ ∈ BIG := List.mem_filter.mpr ⟨List.mem_of_getElem? (i := 1577) (by decide +kernel), by decide +kernel⟩
theorem w_0456aaf07a : Cond.methodLink "TinyForgeLaw" 38 ⟨"TinyForgeLaw", "type", "(LTinyForge;JI[J)I"⟩ ∈ BIG := List.mem_filter.mpr ⟨List.mem_of_getElem? (i := 482) (by decide +kernel), by decide +kernel⟩
theorem w_06c418bcd1 : Cond.methodLink "TinyForgeLaw" 82 ⟨"TinyForge", "ticks", "()I"⟩ ∈ BIG := List.mem_filter.mpr ⟨List.mem_of_getElem? (i := 478) (by decide +kernel), by decide +kernel⟩
theorem w_0bfa85ec9b : Cond.code ⟨"TinyForgeModel", "give", "(I)I"⟩ prog_13_method_63_code 2 (some .int) ∈ BIG := List.mem_filter.mpr ⟨List.mem_of_getElem? (i := 1582) (by decide +kernel), by decide +kernel⟩
theorem w_0c9f6b5e99 : Cond.code ⟨"TinyForgeModel", "output", "(I)I"⟩ prog_13_method_90_code 2 (some .int) ∈ BIG := List.mem_filter.mpr ⟨List.mem_of_getElem? (i := 1687) (by decide +kernel), by decide +kernel⟩
theorem w_0d81f02f5f : Cond.instanceMethod ⟨"TinyForgeModel", "empty", "()I"⟩ ∈ BIG := List.mem_filter.mpr ⟨List.mem_of_getElem? (i := 1584) (by decide +kernel), by decide +kernel⟩
theorem w_12a5df4640 : Cond.code ⟨"TinyForgeModel", "run", "()I"⟩ prog_13_method_88_code 2 (some .int) ∈ BIG := List.mem_filter.mpr ⟨List.mem_of_getElem? (i := 1590) (by decide +kernel), by decide +kernel⟩
theorem w_147a093bcd : Cond.methodLink "TinyForgeLaw" 77 ⟨"TinyForgeModel", "result", "()I"⟩ ∈ BIG := List.mem_filter.mpr ⟨List.mem_of_getElem? (i := 1680) (by decide +kernel), by decide +kernel⟩
theorem w_159c836363 : Cond.methodLink "TinyForgeLaw" 70 ⟨"TinyForgeModel", "empty", "()I"⟩ ∈ BIG := List.mem_filter.mpr ⟨List.mem_of_getElem? (i := 1583) (by decide +kernel), by decide +kernel⟩
theorem w_1637f05c68 : Cond.selects "TinyForgeModel" ⟨"TinyForgeModel", "type", "(JI)I"⟩ ⟨"TinyForgeModel", "type", "(JI)I"⟩ ∈ BIG := List.mem_filter.mpr ⟨List.mem_of_getElem? (i := 1318) (by decide +kernel), by decide +kernel⟩
theorem w_195a9bad69 : Cond.code ⟨"TinyForgeModel", "forge", "()I"⟩ prog_13_method_60_code 1 (some .int) ∈ BIG := List.mem_filter.mpr ⟨List.mem_of_getElem? (i := 1335) (by decide +kernel), by decide +kernel⟩
theorem w_1d3f9a719d : Cond.instanceMethod ⟨"TinyForgeModel", "forge", "()I"⟩ ∈ BIG := List.mem_filter.mpr ⟨List.mem_of_getElem? (i := 1333) (by decide +kernel), by decide +kernel⟩
theorem w_1fcd343511 : Cond.code ⟨"TinyForgeModel", "ticks", "()I"⟩ prog_13_method_91_code 1 (some .int) ∈ BIG := List.mem_filter.mpr ⟨List.mem_of_getElem? (i := 1691) (by decide +kernel), by decide +kernel⟩
theorem w_1fe96c6867 : Cond.selects "TinyForgeModel" ⟨"TinyForgeModel", "result", "()I"⟩ ⟨"TinyForgeModel", "result", "()I"⟩ ∈ BIG := List.mem_filter.mpr ⟨List.mem_of_getElem? (i := 1682) (by decide +kernel), by decide +kernel⟩
theorem w_1fed1e5518 : Cond.code ⟨"TinyForge", "empty", "()I"⟩ prog_1_method_8_code 2 (some .int) ∈ BIG := List.mem_filter.mpr ⟨List.mem_of_getElem? (i := 465) (by decide +kernel), by decide +kernel⟩
theorem w_250222a4f6 : Cond.methodLink "TinyForgeLaw" 50 ⟨"TinyForgeModel", "clear", "()I"⟩ ∈ BIG := List.mem_filter.mpr ⟨List.mem_of_getElem? (i := 1328) (by decide +kernel), by decide +kernel⟩
theorem w_289033158c : Cond.selects "TinyForge" ⟨"TinyForge", "where", "()I"⟩ ⟨"TinyForge", "where", "()I"⟩ ∈ BIG := List.mem_filter.mpr ⟨List.mem_of_getElem? (i := 460) (by decide +kernel), by decide +kernel⟩
theorem w_2ddf083e8c : Cond.methodLink "TinyForgeLaw" 74 ⟨"TinyForge", "result", "()I"⟩ ∈ BIG := List.mem_filter.mpr ⟨List.mem_of_getElem? (i := 466) (by decide +kernel), by decide +kernel⟩
theorem w_2e305e39f8 : Cond.code ⟨"TinyForge", "clear", "()I"⟩ prog_1_method_3_code 2 (some .int) ∈ BIG := List.mem_filter.mpr ⟨List.mem_of_getElem? (i := 453) (by decide +kernel), by decide +kernel⟩
theorem w_2f13d70db3 : Cond.codeWith ⟨"TinyForgeLaw", "give", "(LTinyForge;I[J)I"⟩ method_5_code 4 (some .int) [(0, 9, 12, 15)] ∈ BIG := List.mem_filter.mpr ⟨List.mem_of_getElem? (i := 1034) (by decide +kernel), by decide +kernel⟩
theorem w_32fbacfc0f : Cond.instanceMethod ⟨"TinyForgeModel", "clear", "()I"⟩ ∈ BIG := List.mem_filter.mpr ⟨List.mem_of_getElem? (i := 1329) (by decide +kernel), by decide +kernel⟩
theorem w_34c9823a4b : Cond.methodLink "TinyForgeLaw" 47 ⟨"TinyForge", "clear", "()I"⟩ ∈ BIG := List.mem_filter.mpr ⟨List.mem_of_getElem? (i := 450) (by decide +kernel), by decide +kernel⟩
theorem w_383127ac31 : Cond.code ⟨"TinyForgeModel", "<init>", "()V"⟩ prog_13_method_1_code 1 none ∈ BIG := List.mem_filter.mpr ⟨List.mem_of_getElem? (i := 1138) (by decide +kernel), by decide +kernel⟩
theorem w_392262a552 : Cond.code ⟨"TinyForge", "<init>", "()V"⟩ prog_1_method_1_code 3 none ∈ BIG := List.mem_filter.mpr ⟨List.mem_of_getElem? (i := 149) (by decide +kernel), by decide +kernel⟩
theorem w_3a1fcb4c79 : Cond.selects "TinyForgeModel" ⟨"TinyForgeModel", "ticks", "()I"⟩ ⟨"TinyForgeModel", "ticks", "()I"⟩ ∈ BIG := List.mem_filter.mpr ⟨List.mem_of_getElem? (i := 1690) (by decide +kernel), by decide +kernel⟩
theorem w_401fe2e032 : Cond.selects "TinyForge" ⟨"TinyForge", "why", "()I"⟩ ⟨"TinyForge", "why", "()I"⟩ ∈ BIG := List.mem_filter.mpr ⟨List.mem_of_getElem? (i := 456) (by decide +kernel), by decide +kernel⟩
theorem w_44374003df : Cond.instanceMethod ⟨"TinyForgeModel", "output", "(I)I"⟩ ∈ BIG := List.mem_filter.mpr ⟨List.mem_of_getElem? (i := 1685) (by decide +kernel), by decide +kernel⟩
theorem w_45cbcaf6cd : Cond.static ⟨"TinyForgeLaw", "type", "(LTinyForge;JI[J)I"⟩ ∈ BIG := List.mem_filter.mpr ⟨List.mem_of_getElem? (i := 483) (by decide +kernel), by decide +kernel⟩
theorem w_466dab007e : Cond.codeWith ⟨"TinyForgeLaw", "type", "(LTinyForge;JI[J)I"⟩ method_3_code 6 (some .int) [(0, 11, 14, 13), (0, 11, 18, 15)] ∈ BIG := List.mem_filter.mpr ⟨List.mem_of_getElem? (i := 484) (by decide +kernel), by decide +kernel⟩
theorem w_497a50c31b : Cond.selects "TinyForge" ⟨"TinyForge", "output", "(I)I"⟩ ⟨"TinyForge", "output", "(I)I"⟩ ∈ BIG := List.mem_filter.mpr ⟨List.mem_of_getElem? (i := 472) (by decide +kernel), by decide +kernel⟩
theorem w_4a28daf723 : Cond.instanceMethod ⟨"TinyForge", "empty", "()I"⟩ ∈ BIG := List.mem_filter.mpr ⟨List.mem_of_getElem? (i := 463) (by decide +kernel), by decide +kernel⟩
theorem w_4c3767da95 : Cond.methodLink "TinyForgeLaw" 58 ⟨"TinyForgeModel", "why", "()I"⟩ ∈ BIG := List.mem_filter.mpr ⟨List.mem_of_getElem? (i := 1571) (by decide +kernel), by decide +kernel⟩
theorem w_5180d86e3a : Cond.methodLink "TinyForgeLaw" 44 ⟨"TinyForgeModel", "thrown", "()I"⟩ ∈ BIG := List.mem_filter.mpr ⟨List.mem_of_getElem? (i := 1312) (by decide +kernel), by decide +kernel⟩
theorem w_588513a766 : Cond.code ⟨"TinyForgeModel", "thrown", "()I"⟩ prog_13_method_2_code 1 (some .int) ∈ BIG := List.mem_filter.mpr ⟨List.mem_of_getElem? (i := 1315) (by decide +kernel), by decide +kernel⟩
theorem w_59653a6408 : Cond.methodLink "TinyForgeLaw" 43 ⟨"TinyForgeModel", "type", "(JI)I"⟩ ∈ BIG := List.mem_filter.mpr ⟨List.mem_of_getElem? (i := 1316) (by decide +kernel), by decide +kernel⟩
theorem w_5d0469eb43 : Cond.selects "TinyForgeModel" ⟨"TinyForgeModel", "thrown", "()I"⟩ ⟨"TinyForgeModel", "thrown", "()I"⟩ ∈ BIG := List.mem_filter.mpr ⟨List.mem_of_getElem? (i := 1314) (by decide +kernel), by decide +kernel⟩
theorem w_5e02ee9900 : Cond.selects "TinyForgeModel" ⟨"TinyForgeModel", "empty", "()I"⟩ ⟨"TinyForgeModel", "empty", "()I"⟩ ∈ BIG := List.mem_filter.mpr ⟨List.mem_of_getElem? (i := 1585) (by decide +kernel), by decide +kernel⟩
theorem w_6c3dfc1915 : Cond.instanceMethod ⟨"TinyForgeModel", "why", "()I"⟩ ∈ BIG := List.mem_filter.mpr ⟨List.mem_of_getElem? (i := 1572) (by decide +kernel), by decide +kernel⟩
theorem w_6c3ee28e98 : Cond.methodLink "TinyForgeLaw" 78 ⟨"TinyForge", "output", "(I)I"⟩ ∈ BIG := List.mem_filter.mpr ⟨List.mem_of_getElem? (i := 470) (by decide +kernel), by decide +kernel⟩
theorem w_6f2636e39d : Cond.initialized "TinyForgeLaw" ∈ BIG := List.mem_filter.mpr ⟨List.mem_of_getElem? (i := 119) (by decide +kernel), by decide +kernel⟩
theorem w_6f53d07a9e : Cond.code ⟨"TinyForgeModel", "empty", "()I"⟩ prog_13_method_64_code 2 (some .int) ∈ BIG := List.mem_filter.mpr ⟨List.mem_of_getElem? (i := 1586) (by decide +kernel), by decide +kernel⟩
theorem w_6fb8dfe055 : Cond.selects "TinyForgeModel" ⟨"TinyForgeModel", "clear", "()I"⟩ ⟨"TinyForgeModel", "clear", "()I"⟩ ∈ BIG := List.mem_filter.mpr ⟨List.mem_of_getElem? (i := 1330) (by decide +kernel), by decide +kernel⟩
theorem w_704a312e68 : Cond.instantiable "TinyForgeModel" 57 ∈ BIG := List.mem_filter.mpr ⟨List.mem_of_getElem? (i := 1135) (by decide +kernel), by decide +kernel⟩
theorem w_731a7cdd91 : Cond.code ⟨"TinyForgeModel", "why", "()I"⟩ prog_13_method_61_code 1 (some .int) ∈ BIG := List.mem_filter.mpr ⟨List.mem_of_getElem? (i := 1574) (by decide +kernel), by decide +kernel⟩
theorem w_751aefadad : Cond.methodLink "TinyForgeLaw" 54 ⟨"TinyForgeModel", "forge", "()I"⟩ ∈ BIG := List.mem_filter.mpr ⟨List.mem_of_getElem? (i := 1332) (by decide +kernel), by decide +kernel⟩
theorem w_7a8fa5ead9 : Cond.methodLink "TinyForgeLaw" 63 ⟨"TinyForgeLaw", "give", "(LTinyForge;I[J)I"⟩ ∈ BIG := List.mem_filter.mpr ⟨List.mem_of_getElem? (i := 1032) (by decide +kernel), by decide +kernel⟩
theorem w_7b9982a194 : Cond.code ⟨"TinyForge", "result", "()I"⟩ prog_1_method_10_code 1 (some .int) ∈ BIG := List.mem_filter.mpr ⟨List.mem_of_getElem? (i := 469) (by decide +kernel), by decide +kernel⟩
theorem w_7dc84dea24 : Cond.classLink "TinyForgeLaw" 33 "TinyForgeModel" ∈ BIG := List.mem_filter.mpr ⟨List.mem_of_getElem? (i := 1134) (by decide +kernel), by decide +kernel⟩
theorem w_7e07bc1cda : Cond.instanceMethod ⟨"TinyForgeModel", "give", "(I)I"⟩ ∈ BIG := List.mem_filter.mpr ⟨List.mem_of_getElem? (i := 1580) (by decide +kernel), by decide +kernel⟩
theorem w_7ed1802fda : Cond.instanceMethod ⟨"TinyForge", "result", "()I"⟩ ∈ BIG := List.mem_filter.mpr ⟨List.mem_of_getElem? (i := 467) (by decide +kernel), by decide +kernel⟩
theorem w_832db28f57 : Cond.instanceMethod ⟨"TinyForge", "<init>", "()V"⟩ ∈ BIG := List.mem_filter.mpr ⟨List.mem_of_getElem? (i := 148) (by decide +kernel), by decide +kernel⟩
theorem w_83b9d0e132 : Cond.instantiable "TinyForge" 9 ∈ BIG := List.mem_filter.mpr ⟨List.mem_of_getElem? (i := 146) (by decide +kernel), by decide +kernel⟩
theorem w_841dfe0183 : Cond.static ⟨"TinyForgeLaw", "give", "(LTinyForge;I[J)I"⟩ ∈ BIG := List.mem_filter.mpr ⟨List.mem_of_getElem? (i := 1033) (by decide +kernel), by decide +kernel⟩
theorem w_8662ca0e57 : Cond.methodLink "TinyForgeLaw" 73 ⟨"TinyForgeModel", "run", "()I"⟩ ∈ BIG := List.mem_filter.mpr ⟨List.mem_of_getElem? (i := 1587) (by decide +kernel), by decide +kernel⟩
theorem w_877cdde6ab : Cond.methodLink "TinyForgeLaw" 59 ⟨"TinyForge", "where", "()I"⟩ ∈ BIG := List.mem_filter.mpr ⟨List.mem_of_getElem? (i := 458) (by decide +kernel), by decide +kernel⟩
theorem w_8d1f408838 : Cond.code ⟨"TinyForge", "why", "()I"⟩ prog_1_method_5_code 1 (some .int) ∈ BIG := List.mem_filter.mpr ⟨List.mem_of_getElem? (i := 457) (by decide +kernel), by decide +kernel⟩
theorem w_8d393f6c1c : Cond.instanceMethod ⟨"TinyForgeModel", "where", "()I"⟩ ∈ BIG := List.mem_filter.mpr ⟨List.mem_of_getElem? (i := 1576) (by decide +kernel), by decide +kernel⟩
theorem w_8e3ad8e19d : Cond.instanceMethod ⟨"TinyForge", "clear", "()I"⟩ ∈ BIG := List.mem_filter.mpr ⟨List.mem_of_getElem? (i := 451) (by decide +kernel), by decide +kernel⟩
theorem w_8f74e2a136 : Cond.instanceMethod ⟨"TinyForgeModel", "result", "()I"⟩ ∈ BIG := List.mem_filter.mpr ⟨List.mem_of_getElem? (i := 1681) (by decide +kernel), by decide +kernel⟩
theorem w_9019c98e4b : Cond.selects "TinyForgeModel" ⟨"TinyForgeModel", "give", "(I)I"⟩ ⟨"TinyForgeModel", "give", "(I)I"⟩ ∈ BIG := List.mem_filter.mpr ⟨List.mem_of_getElem? (i := 1581) (by decide +kernel), by decide +kernel⟩
theorem w_9132554253 : Cond.methodLink "TinyForgeLaw" 32 ⟨"TinyForge", "<init>", "()V"⟩ ∈ BIG := List.mem_filter.mpr ⟨List.mem_of_getElem? (i := 147) (by decide +kernel), by decide +kernel⟩
theorem w_91b947f12b : Cond.static ⟨"TinyForgeLaw", "forge", "(LTinyForge;[J)I"⟩ ∈ BIG := List.mem_filter.mpr ⟨List.mem_of_getElem? (i := 585) (by decide +kernel), by decide +kernel⟩
theorem w_940d91b279 : Cond.instanceMethod ⟨"TinyForge", "why", "()I"⟩ ∈ BIG := List.mem_filter.mpr ⟨List.mem_of_getElem? (i := 455) (by decide +kernel), by decide +kernel⟩
theorem w_986dade85d : Cond.methodLink "TinyForgeLaw" 85 ⟨"TinyForgeModel", "ticks", "()I"⟩ ∈ BIG := List.mem_filter.mpr ⟨List.mem_of_getElem? (i := 1688) (by decide +kernel), by decide +kernel⟩
theorem w_9c08527a8e : Cond.code ⟨"TinyForgeModel", "type", "(JI)I"⟩ prog_13_method_6_code 7 (some .int) ∈ BIG := List.mem_filter.mpr ⟨List.mem_of_getElem? (i := 1319) (by decide +kernel), by decide +kernel⟩
theorem w_9cbae0d728 : Cond.selects "TinyForge" ⟨"TinyForge", "result", "()I"⟩ ⟨"TinyForge", "result", "()I"⟩ ∈ BIG := List.mem_filter.mpr ⟨List.mem_of_getElem? (i := 468) (by decide +kernel), by decide +kernel⟩
theorem w_9d939f81ac : Cond.instanceMethod ⟨"TinyForgeModel", "run", "()I"⟩ ∈ BIG := List.mem_filter.mpr ⟨List.mem_of_getElem? (i := 1588) (by decide +kernel), by decide +kernel⟩
theorem w_add43b4fcd : Cond.code ⟨"TinyForgeModel", "where", "()I"⟩ prog_13_method_62_code 1 (some .int) ∈ BIG := List.mem_filter.mpr ⟨List.mem_of_getElem? (i := 1578) (by decide +kernel), by decide +kernel⟩
theorem w_af081ecbe7 : Cond.methodLink "TinyForgeLaw" 66 ⟨"TinyForgeModel", "give", "(I)I"⟩ ∈ BIG := List.mem_filter.mpr ⟨List.mem_of_getElem? (i := 1579) (by decide +kernel), by decide +kernel⟩
theorem w_b2c193d54c : Cond.instanceMethod ⟨"TinyForge", "output", "(I)I"⟩ ∈ BIG := List.mem_filter.mpr ⟨List.mem_of_getElem? (i := 471) (by decide +kernel), by decide +kernel⟩
theorem w_b5e233a7a4 : Cond.instanceMethod ⟨"TinyForgeModel", "<init>", "()V"⟩ ∈ BIG := List.mem_filter.mpr ⟨List.mem_of_getElem? (i := 1137) (by decide +kernel), by decide +kernel⟩
theorem w_b81eb00e17 : Cond.selects "TinyForge" ⟨"TinyForge", "clear", "()I"⟩ ⟨"TinyForge", "clear", "()I"⟩ ∈ BIG := List.mem_filter.mpr ⟨List.mem_of_getElem? (i := 452) (by decide +kernel), by decide +kernel⟩
theorem w_ba23171834 : Cond.selects "TinyForgeModel" ⟨"TinyForgeModel", "forge", "()I"⟩ ⟨"TinyForgeModel", "forge", "()I"⟩ ∈ BIG := List.mem_filter.mpr ⟨List.mem_of_getElem? (i := 1334) (by decide +kernel), by decide +kernel⟩
theorem w_bc912e57bc : Cond.code ⟨"TinyForgeModel", "clear", "()I"⟩ prog_13_method_7_code 2 (some .int) ∈ BIG := List.mem_filter.mpr ⟨List.mem_of_getElem? (i := 1331) (by decide +kernel), by decide +kernel⟩
theorem w_bd71473090 : Cond.methodLink "TinyForgeLaw" 81 ⟨"TinyForgeModel", "output", "(I)I"⟩ ∈ BIG := List.mem_filter.mpr ⟨List.mem_of_getElem? (i := 1684) (by decide +kernel), by decide +kernel⟩
theorem w_bdfe938944 : Cond.selects "TinyForgeModel" ⟨"TinyForgeModel", "run", "()I"⟩ ⟨"TinyForgeModel", "run", "()I"⟩ ∈ BIG := List.mem_filter.mpr ⟨List.mem_of_getElem? (i := 1589) (by decide +kernel), by decide +kernel⟩
theorem w_c313b20aa2 : Cond.codeWith ⟨"TinyForgeLaw", "run", "(LTinyForge;[J)I"⟩ method_6_code 3 (some .int) [(0, 8, 11, 30)] ∈ BIG := List.mem_filter.mpr ⟨List.mem_of_getElem? (i := 1045) (by decide +kernel), by decide +kernel⟩
theorem w_c3535be3d8 : Cond.code ⟨"TinyForge", "where", "()I"⟩ prog_1_method_6_code 1 (some .int) ∈ BIG := List.mem_filter.mpr ⟨List.mem_of_getElem? (i := 461) (by decide +kernel), by decide +kernel⟩
theorem w_c436dbc1c2 : Cond.instanceMethod ⟨"TinyForgeModel", "thrown", "()I"⟩ ∈ BIG := List.mem_filter.mpr ⟨List.mem_of_getElem? (i := 1313) (by decide +kernel), by decide +kernel⟩
theorem w_c6f76a5764 : Cond.code ⟨"TinyForge", "output", "(I)I"⟩ prog_1_method_11_code 2 (some .int) ∈ BIG := List.mem_filter.mpr ⟨List.mem_of_getElem? (i := 473) (by decide +kernel), by decide +kernel⟩
theorem w_cd9d93b467 : Cond.methodLink "TinyForgeLaw" 62 ⟨"TinyForgeModel", "where", "()I"⟩ ∈ BIG := List.mem_filter.mpr ⟨List.mem_of_getElem? (i := 1575) (by decide +kernel), by decide +kernel⟩
theorem w_d2f044ddf6 : Cond.methodLink "TinyForgeLaw" 51 ⟨"TinyForgeLaw", "forge", "(LTinyForge;[J)I"⟩ ∈ BIG := List.mem_filter.mpr ⟨List.mem_of_getElem? (i := 584) (by decide +kernel), by decide +kernel⟩
theorem w_d3756cc831 : Cond.methodLink "TinyForgeLaw" 67 ⟨"TinyForge", "empty", "()I"⟩ ∈ BIG := List.mem_filter.mpr ⟨List.mem_of_getElem? (i := 462) (by decide +kernel), by decide +kernel⟩
theorem w_d3c6a90fde : Cond.instanceMethod ⟨"TinyForgeModel", "type", "(JI)I"⟩ ∈ BIG := List.mem_filter.mpr ⟨List.mem_of_getElem? (i := 1317) (by decide +kernel), by decide +kernel⟩
theorem w_d41e3bef13 : Cond.selects "TinyForge" ⟨"TinyForge", "empty", "()I"⟩ ⟨"TinyForge", "empty", "()I"⟩ ∈ BIG := List.mem_filter.mpr ⟨List.mem_of_getElem? (i := 464) (by decide +kernel), by decide +kernel⟩
theorem w_d8d7ded5cb : Cond.instanceMethod ⟨"TinyForgeModel", "ticks", "()I"⟩ ∈ BIG := List.mem_filter.mpr ⟨List.mem_of_getElem? (i := 1689) (by decide +kernel), by decide +kernel⟩
theorem w_db32461c2e : Cond.classLink "TinyForgeLaw" 8 "TinyForge" ∈ BIG := List.mem_filter.mpr ⟨List.mem_of_getElem? (i := 145) (by decide +kernel), by decide +kernel⟩
theorem w_db4802e64c : Cond.selects "TinyForge" ⟨"TinyForge", "ticks", "()I"⟩ ⟨"TinyForge", "ticks", "()I"⟩ ∈ BIG := List.mem_filter.mpr ⟨List.mem_of_getElem? (i := 480) (by decide +kernel), by decide +kernel⟩
theorem w_ddea831a3a : Cond.methodLink "TinyForgeLaw" 71 ⟨"TinyForgeLaw", "run", "(LTinyForge;[J)I"⟩ ∈ BIG := List.mem_filter.mpr ⟨List.mem_of_getElem? (i := 1043) (by decide +kernel), by decide +kernel⟩
theorem w_e3f6716554 : Cond.selects "TinyForgeModel" ⟨"TinyForgeModel", "output", "(I)I"⟩ ⟨"TinyForgeModel", "output", "(I)I"⟩ ∈ BIG := List.mem_filter.mpr ⟨List.mem_of_getElem? (i := 1686) (by decide +kernel), by decide +kernel⟩
theorem w_eb61bcc8f2 : Cond.methodLink "TinyForgeLaw" 55 ⟨"TinyForge", "why", "()I"⟩ ∈ BIG := List.mem_filter.mpr ⟨List.mem_of_getElem? (i := 454) (by decide +kernel), by decide +kernel⟩
theorem w_ec6cc46129 : Cond.static ⟨"TinyForgeLaw", "run", "(LTinyForge;[J)I"⟩ ∈ BIG := List.mem_filter.mpr ⟨List.mem_of_getElem? (i := 1044) (by decide +kernel), by decide +kernel⟩
theorem w_f766b31c63 : Cond.instanceMethod ⟨"TinyForge", "where", "()I"⟩ ∈ BIG := List.mem_filter.mpr ⟨List.mem_of_getElem? (i := 459) (by decide +kernel), by decide +kernel⟩
theorem w_f89ee741f5 : Cond.codeWith ⟨"TinyForgeLaw", "forge", "(LTinyForge;[J)I"⟩ method_4_code 3 (some .int) [(0, 8, 11, 21)] ∈ BIG := List.mem_filter.mpr ⟨List.mem_of_getElem? (i := 586) (by decide +kernel), by decide +kernel⟩
theorem w_f931b29451 : Cond.selects "TinyForgeModel" ⟨"TinyForgeModel", "why", "()I"⟩ ⟨"TinyForgeModel", "why", "()I"⟩ ∈ BIG := List.mem_filter.mpr ⟨List.mem_of_getElem? (i := 1573) (by decide +kernel), by decide +kernel⟩
theorem w_f99e8aec92 : Cond.code ⟨"TinyForgeModel", "result", "()I"⟩ prog_13_method_89_code 1 (some .int) ∈ BIG := List.mem_filter.mpr ⟨List.mem_of_getElem? (i := 1683) (by decide +kernel), by decide +kernel⟩
theorem w_fbdf1b30df : Cond.methodLink "TinyForgeLaw" 35 ⟨"TinyForgeModel", "<init>", "()V"⟩ ∈ BIG := List.mem_filter.mpr ⟨List.mem_of_getElem? (i := 1136) (by decide +kernel), by decide +kernel⟩
theorem w_fd848fb666 : Cond.code ⟨"TinyForge", "ticks", "()I"⟩ prog_1_method_12_code 1 (some .int) ∈ BIG := List.mem_filter.mpr ⟨List.mem_of_getElem? (i := 481) (by decide +kernel), by decide +kernel⟩
theorem w_fee197f06a : Cond.constantLong "TinyForgeLaw" 36 4294967295 ∈ BIG := List.mem_filter.mpr ⟨List.mem_of_getElem? (i := 1692) (by decide +kernel), by decide +kernel⟩
theorem w_ffc934d7a7 : Cond.instanceMethod ⟨"TinyForge", "ticks", "()I"⟩ ∈ BIG := List.mem_filter.mpr ⟨List.mem_of_getElem? (i := 479) (by decide +kernel), by decide +kernel⟩
theorem lk_Law_38 : LkH "TinyForgeLaw" 38 y_Law_type b_Law_type 6 (some .int) [(0, 11, 14, 13), (0, 11, 18, 15)] 4 := ⟨w_0456aaf07a, w_6f2636e39d, w_466dab007e, w_45cbcaf6cd, by decide +kernel⟩
theorem lk_Law_43 : LkV "TinyForgeLaw" 43 "TinyForgeModel" y_Model_type b_Model_type 7 (some .int) 2 := ⟨⟨w_59653a6408, w_96e4c8f110, w_9c08527a8e, by decide +kernel⟩, w_d3c6a90fde, w_1637f05c68⟩
theorem lk_Law_44 : LkV "TinyForgeLaw" 44 "TinyForgeModel" y_Model_thrown b_Model_thrown 1 (some .int) 0 := ⟨⟨w_5180d86e3a, w_96e4c8f110, w_588513a766, by decide +kernel⟩, w_c436dbc1c2, w_5d0469eb43⟩
theorem lk_Law_47 : LkV "TinyForgeLaw" 47 "TinyForge" y_Forge_clear b_Forge_clear 2 (some .int) 0 := ⟨⟨w_34c9823a4b, w_aa9e85039f, w_2e305e39f8, by decide +kernel⟩, w_8e3ad8e19d, w_b81eb00e17⟩
theorem lk_Law_50 : LkV "TinyForgeLaw" 50 "TinyForgeModel" y_Model_clear b_Model_clear 2 (some .int) 0 := ⟨⟨w_250222a4f6, w_96e4c8f110, w_bc912e57bc, by decide +kernel⟩, w_32fbacfc0f, w_6fb8dfe055⟩
theorem lk_Law_51 : LkH "TinyForgeLaw" 51 y_Law_forge b_Law_forge 3 (some .int) [(0, 8, 11, 21)] 2 := ⟨w_d2f044ddf6, w_6f2636e39d, w_f89ee741f5, w_91b947f12b, by decide +kernel⟩
theorem lk_Law_54 : LkV "TinyForgeLaw" 54 "TinyForgeModel" y_Model_forge b_Model_forge 1 (some .int) 0 := ⟨⟨w_751aefadad, w_96e4c8f110, w_195a9bad69, by decide +kernel⟩, w_1d3f9a719d, w_ba23171834⟩
theorem lk_Law_55 : LkV "TinyForgeLaw" 55 "TinyForge" y_Forge_why b_Forge_why 1 (some .int) 0 := ⟨⟨w_eb61bcc8f2, w_aa9e85039f, w_8d1f408838, by decide +kernel⟩, w_940d91b279, w_401fe2e032⟩
theorem lk_Law_58 : LkV "TinyForgeLaw" 58 "TinyForgeModel" y_Model_why b_Model_why 1 (some .int) 0 := ⟨⟨w_4c3767da95, w_96e4c8f110, w_731a7cdd91, by decide +kernel⟩, w_6c3dfc1915, w_f931b29451⟩
theorem lk_Law_59 : LkV "TinyForgeLaw" 59 "TinyForge" y_Forge_where b_Forge_where 1 (some .int) 0 := ⟨⟨w_877cdde6ab, w_aa9e85039f, w_c3535be3d8, by decide +kernel⟩, w_f766b31c63, w_289033158c⟩
theorem lk_Law_62 : LkV "TinyForgeLaw" 62 "TinyForgeModel" y_Model_where b_Model_where 1 (some .int) 0 := ⟨⟨w_cd9d93b467, w_96e4c8f110, w_add43b4fcd, by decide +kernel⟩, w_8d393f6c1c, w_0427bb3406⟩
theorem lk_Law_63 : LkH "TinyForgeLaw" 63 y_Law_give b_Law_give 4 (some .int) [(0, 9, 12, 15)] 3 := ⟨w_7a8fa5ead9, w_6f2636e39d, w_2f13d70db3, w_841dfe0183, by decide +kernel⟩
theorem lk_Law_66 : LkV "TinyForgeLaw" 66 "TinyForgeModel" y_Model_give b_Model_give 2 (some .int) 1 := ⟨⟨w_af081ecbe7, w_96e4c8f110, w_0bfa85ec9b, by decide +kernel⟩, w_7e07bc1cda, w_9019c98e4b⟩
theorem lk_Law_67 : LkV "TinyForgeLaw" 67 "TinyForge" y_Forge_empty b_Forge_empty 2 (some .int) 0 := ⟨⟨w_d3756cc831, w_aa9e85039f, w_1fed1e5518, by decide +kernel⟩, w_4a28daf723, w_d41e3bef13⟩
theorem lk_Law_70 : LkV "TinyForgeLaw" 70 "TinyForgeModel" y_Model_empty b_Model_empty 2 (some .int) 0 := ⟨⟨w_159c836363, w_96e4c8f110, w_6f53d07a9e, by decide +kernel⟩, w_0d81f02f5f, w_5e02ee9900⟩
theorem lk_Law_71 : LkH "TinyForgeLaw" 71 y_Law_run b_Law_run 3 (some .int) [(0, 8, 11, 30)] 2 := ⟨w_ddea831a3a, w_6f2636e39d, w_c313b20aa2, w_ec6cc46129, by decide +kernel⟩
theorem lk_Law_73 : LkV "TinyForgeLaw" 73 "TinyForgeModel" y_Model_run b_Model_run 2 (some .int) 0 := ⟨⟨w_8662ca0e57, w_96e4c8f110, w_12a5df4640, by decide +kernel⟩, w_9d939f81ac, w_bdfe938944⟩
theorem lk_Law_74 : LkV "TinyForgeLaw" 74 "TinyForge" y_Forge_result b_Forge_result 1 (some .int) 0 := ⟨⟨w_2ddf083e8c, w_aa9e85039f, w_7b9982a194, by decide +kernel⟩, w_7ed1802fda, w_9cbae0d728⟩
theorem lk_Law_77 : LkV "TinyForgeLaw" 77 "TinyForgeModel" y_Model_result b_Model_result 1 (some .int) 0 := ⟨⟨w_147a093bcd, w_96e4c8f110, w_f99e8aec92, by decide +kernel⟩, w_8f74e2a136, w_1fe96c6867⟩
theorem lk_Law_78 : LkV "TinyForgeLaw" 78 "TinyForge" y_Forge_output b_Forge_output 2 (some .int) 1 := ⟨⟨w_6c3ee28e98, w_aa9e85039f, w_c6f76a5764, by decide +kernel⟩, w_b2c193d54c, w_497a50c31b⟩
theorem lk_Law_81 : LkV "TinyForgeLaw" 81 "TinyForgeModel" y_Model_output b_Model_output 2 (some .int) 1 := ⟨⟨w_bd71473090, w_96e4c8f110, w_0c9f6b5e99, by decide +kernel⟩, w_44374003df, w_e3f6716554⟩
theorem lk_Law_82 : LkV "TinyForgeLaw" 82 "TinyForge" y_Forge_ticks b_Forge_ticks 1 (some .int) 0 := ⟨⟨w_06c418bcd1, w_aa9e85039f, w_fd848fb666, by decide +kernel⟩, w_ffc934d7a7, w_db4802e64c⟩
theorem lk_Law_85 : LkV "TinyForgeLaw" 85 "TinyForgeModel" y_Model_ticks b_Model_ticks 1 (some .int) 0 := ⟨⟨w_986dade85d, w_96e4c8f110, w_1fcd343511, by decide +kernel⟩, w_d8d7ded5cb, w_3a1fcb4c79⟩
