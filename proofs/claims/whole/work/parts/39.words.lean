theorem w_02743468b1 : Cond.selects "TinyForge" ⟨"TinyForge", "forge", "()I"⟩ ⟨"TinyForge", "forge", "()I"⟩ ∈ BIG := List.mem_filter.mpr ⟨List.mem_of_getElem? (i := 590) (by decide +kernel), by decide +kernel⟩
theorem w_0722cd9d45 : Cond.instanceMethod ⟨"TinyForge", "forge", "()I"⟩ ∈ BIG := List.mem_filter.mpr ⟨List.mem_of_getElem? (i := 589) (by decide +kernel), by decide +kernel⟩
theorem w_076d0a4a86 : Cond.selects "TinyForge" ⟨"TinyForge", "type", "(JI)I"⟩ ⟨"TinyForge", "type", "(JI)I"⟩ ∈ BIG := List.mem_filter.mpr ⟨List.mem_of_getElem? (i := 489) (by decide +kernel), by decide +kernel⟩
theorem w_13c09739bd : Cond.code ⟨"TinyForge$Refusal", "<init>", "()V"⟩ prog_8_method_1_code 1 none ∈ BIG := List.mem_filter.mpr ⟨List.mem_of_getElem? (i := 174) (by decide +kernel), by decide +kernel⟩
theorem w_13ed9a43ed : Cond.methodLink "TinyForge$Refusal" 3 ⟨"java/lang/Object", "<init>", "()V"⟩ ∈ BIG := List.mem_filter.mpr ⟨List.mem_of_getElem? (i := 175) (by decide +kernel), by decide +kernel⟩
theorem w_1a18269f85 : Cond.methodLink "TinyForge$Tokens" 3 ⟨"java/lang/Object", "<init>", "()V"⟩ ∈ BIG := List.mem_filter.mpr ⟨List.mem_of_getElem? (i := 193) (by decide +kernel), by decide +kernel⟩
theorem w_1b65395723 : Cond.instantiable "TinyForge$Globals" 9 ∈ BIG := List.mem_filter.mpr ⟨List.mem_of_getElem? (i := 220) (by decide +kernel), by decide +kernel⟩
theorem w_1bf449bfa6 : Cond.classLink "TinyForgeLaw" 30 "java/util/NoSuchElementException" ∈ BIG := List.mem_filter.mpr ⟨List.mem_of_getElem? (i := 1046) (by decide +kernel), by decide +kernel⟩
theorem w_1dd1bb0651 : Cond.code ⟨"java/lang/Object", "<init>", "()V"⟩ object_method_1_code 1 none ∈ BIG := List.mem_filter.mpr ⟨List.mem_of_getElem? (i := 152) (by decide +kernel), by decide +kernel⟩
theorem w_1de25ad9f6 : Cond.classLink "TinyForge" 51 "TinyForge$Cursor" ∈ BIG := List.mem_filter.mpr ⟨List.mem_of_getElem? (i := 310) (by decide +kernel), by decide +kernel⟩
theorem w_1fad339af8 : Cond.methodLink "TinyForge" 3 ⟨"java/lang/Object", "<init>", "()V"⟩ ∈ BIG := List.mem_filter.mpr ⟨List.mem_of_getElem? (i := 150) (by decide +kernel), by decide +kernel⟩
theorem w_20eba2f084 : Cond.methodLink "TinyForge$Input" 3 ⟨"java/lang/Object", "<init>", "()V"⟩ ∈ BIG := List.mem_filter.mpr ⟨List.mem_of_getElem? (i := 354) (by decide +kernel), by decide +kernel⟩
theorem w_229576c515 : Cond.classLink "TinyForge" 48 "TinyForge$Variables" ∈ BIG := List.mem_filter.mpr ⟨List.mem_of_getElem? (i := 288) (by decide +kernel), by decide +kernel⟩
theorem w_22c75aa77f : Cond.selects "TinyForge" ⟨"TinyForge", "give", "(I)I"⟩ ⟨"TinyForge", "give", "(I)I"⟩ ∈ BIG := List.mem_filter.mpr ⟨List.mem_of_getElem? (i := 1037) (by decide +kernel), by decide +kernel⟩
theorem w_25e92ec0cd : Cond.methodLink "TinyForgeLaw" 27 ⟨"TinyForge", "run", "()I"⟩ ∈ BIG := List.mem_filter.mpr ⟨List.mem_of_getElem? (i := 1047) (by decide +kernel), by decide +kernel⟩
theorem w_2667e7d4e3 : Cond.instantiable "TinyForge$Variables" 5 ∈ BIG := List.mem_filter.mpr ⟨List.mem_of_getElem? (i := 289) (by decide +kernel), by decide +kernel⟩
theorem w_27a7d2a1ae : Cond.instanceMethod ⟨"TinyForge$Tokens", "<init>", "(LTinyForge$Text;LTinyForge$Refusal;)V"⟩ ∈ BIG := List.mem_filter.mpr ⟨List.mem_of_getElem? (i := 191) (by decide +kernel), by decide +kernel⟩
theorem w_2cb8fde747 : Cond.code ⟨"TinyForge$Cursor", "<init>", "(LTinyForge$Tokens;LTinyForge$Refusal;)V"⟩ prog_2_method_1_code 3 none ∈ BIG := List.mem_filter.mpr ⟨List.mem_of_getElem? (i := 314) (by decide +kernel), by decide +kernel⟩
theorem w_2f6be69db0 : Cond.arrayClass Jvm.ClassFile.FieldType.int ∈ BIG := List.mem_filter.mpr ⟨List.mem_of_getElem? (i := 217) (by decide +kernel), by decide +kernel⟩
theorem w_2f9dbc610a : Cond.methodLink "TinyForgeLaw" 17 ⟨"TinyForge", "forge", "()I"⟩ ∈ BIG := List.mem_filter.mpr ⟨List.mem_of_getElem? (i := 588) (by decide +kernel), by decide +kernel⟩
theorem w_308973208c : Cond.instanceMethod ⟨"java/lang/Object", "<init>", "()V"⟩ ∈ BIG := List.mem_filter.mpr ⟨List.mem_of_getElem? (i := 151) (by decide +kernel), by decide +kernel⟩
theorem w_30a25a4b4e : Cond.classLink "TinyForgeLaw" 13 "java/lang/IllegalArgumentException" ∈ BIG := List.mem_filter.mpr ⟨List.mem_of_getElem? (i := 485) (by decide +kernel), by decide +kernel⟩
theorem w_3d66dddc82 : Cond.code ⟨"TinyForge$Grammar", "<init>", "(LTinyForge$Cursor;LTinyForge$Variables;LTinyForge$Globals;LTinyForge$Program;)V"⟩ prog_4_method_1_code 5 none ∈ BIG := List.mem_filter.mpr ⟨List.mem_of_getElem? (i := 334) (by decide +kernel), by decide +kernel⟩
theorem w_40dc858b78 : Cond.methodLink "TinyForge$Variables" 3 ⟨"java/lang/Object", "<init>", "()V"⟩ ∈ BIG := List.mem_filter.mpr ⟨List.mem_of_getElem? (i := 293) (by decide +kernel), by decide +kernel⟩
theorem w_44a2e63bc3 : Cond.instantiable "TinyForge$Refusal" 3 ∈ BIG := List.mem_filter.mpr ⟨List.mem_of_getElem? (i := 171) (by decide +kernel), by decide +kernel⟩
theorem w_46520ad4c3 : Cond.code ⟨"TinyForge$Tokens", "<init>", "(LTinyForge$Text;LTinyForge$Refusal;)V"⟩ prog_10_method_1_code 3 none ∈ BIG := List.mem_filter.mpr ⟨List.mem_of_getElem? (i := 192) (by decide +kernel), by decide +kernel⟩
theorem w_4969627150 : Cond.code ⟨"TinyForge", "give", "(I)I"⟩ prog_1_method_7_code 2 (some .int) ∈ BIG := List.mem_filter.mpr ⟨List.mem_of_getElem? (i := 1038) (by decide +kernel), by decide +kernel⟩
theorem w_5910d1262c : Cond.fieldLink "TinyForge$Program" 25 "TinyForge$Program" "start" "I" ∈ BIG := List.mem_filter.mpr ⟨List.mem_of_getElem? (i := 274) (by decide +kernel), by decide +kernel⟩
theorem w_5b6a593778 : Cond.instantiable "TinyForge$Grammar" 4 ∈ BIG := List.mem_filter.mpr ⟨List.mem_of_getElem? (i := 331) (by decide +kernel), by decide +kernel⟩
theorem w_5d32285d60 : Cond.instantiable "TinyForge$Machine" 15 ∈ BIG := List.mem_filter.mpr ⟨List.mem_of_getElem? (i := 368) (by decide +kernel), by decide +kernel⟩
theorem w_5dbf1b8a2e : Cond.instanceMethod ⟨"TinyForge$Text", "<init>", "()V"⟩ ∈ BIG := List.mem_filter.mpr ⟨List.mem_of_getElem? (i := 156) (by decide +kernel), by decide +kernel⟩
theorem w_6a2027b1c8 : Cond.methodLink "TinyForge" 56 ⟨"TinyForge$Grammar", "<init>", "(LTinyForge$Cursor;LTinyForge$Variables;LTinyForge$Globals;LTinyForge$Program;)V"⟩ ∈ BIG := List.mem_filter.mpr ⟨List.mem_of_getElem? (i := 332) (by decide +kernel), by decide +kernel⟩
theorem w_6d148e1818 : Cond.methodLink "TinyForge" 72 ⟨"TinyForge$Machine", "<init>", "(LTinyForge$Program;LTinyForge$Input;)V"⟩ ∈ BIG := List.mem_filter.mpr ⟨List.mem_of_getElem? (i := 369) (by decide +kernel), by decide +kernel⟩
theorem w_6e8cafb56c : Cond.methodLink "TinyForge$Text" 3 ⟨"java/lang/Object", "<init>", "()V"⟩ ∈ BIG := List.mem_filter.mpr ⟨List.mem_of_getElem? (i := 158) (by decide +kernel), by decide +kernel⟩
theorem w_6ebf82f76a : Cond.classLink "TinyForge" 32 "TinyForge$Globals" ∈ BIG := List.mem_filter.mpr ⟨List.mem_of_getElem? (i := 219) (by decide +kernel), by decide +kernel⟩
theorem w_6fbc6cfc91 : Cond.instanceMethod ⟨"TinyForge$Variables", "<init>", "(LTinyForge$Tokens;LTinyForge$Refusal;)V"⟩ ∈ BIG := List.mem_filter.mpr ⟨List.mem_of_getElem? (i := 291) (by decide +kernel), by decide +kernel⟩
theorem w_703675effc : Cond.classLink "TinyForge" 16 "TinyForge$Refusal" ∈ BIG := List.mem_filter.mpr ⟨List.mem_of_getElem? (i := 170) (by decide +kernel), by decide +kernel⟩
theorem w_70f7e66ecf : Cond.instanceMethod ⟨"TinyForge$Cursor", "<init>", "(LTinyForge$Tokens;LTinyForge$Refusal;)V"⟩ ∈ BIG := List.mem_filter.mpr ⟨List.mem_of_getElem? (i := 313) (by decide +kernel), by decide +kernel⟩
theorem w_730191ed99 : Cond.instanceMethod ⟨"TinyForge$Refusal", "<init>", "()V"⟩ ∈ BIG := List.mem_filter.mpr ⟨List.mem_of_getElem? (i := 173) (by decide +kernel), by decide +kernel⟩
theorem w_7458a53ef2 : Cond.code ⟨"TinyForge$Program", "<init>", "()V"⟩ prog_7_method_1_code 1 none ∈ BIG := List.mem_filter.mpr ⟨List.mem_of_getElem? (i := 259) (by decide +kernel), by decide +kernel⟩
theorem w_79c16831a7 : Cond.methodLink "TinyForge$Grammar" 3 ⟨"java/lang/Object", "<init>", "()V"⟩ ∈ BIG := List.mem_filter.mpr ⟨List.mem_of_getElem? (i := 335) (by decide +kernel), by decide +kernel⟩
theorem w_79cdbf7d43 : Cond.methodLink "TinyForge" 25 ⟨"TinyForge$Tokens", "<init>", "(LTinyForge$Text;LTinyForge$Refusal;)V"⟩ ∈ BIG := List.mem_filter.mpr ⟨List.mem_of_getElem? (i := 190) (by decide +kernel), by decide +kernel⟩
theorem w_7bb90c3f46 : Cond.classLink "TinyForge" 63 "TinyForge$Input" ∈ BIG := List.mem_filter.mpr ⟨List.mem_of_getElem? (i := 349) (by decide +kernel), by decide +kernel⟩
theorem w_7f090713cf : Cond.instantiable "TinyForge$Tokens" 7 ∈ BIG := List.mem_filter.mpr ⟨List.mem_of_getElem? (i := 189) (by decide +kernel), by decide +kernel⟩
theorem w_7fa1ab8612 : Cond.classLink "TinyForgeLaw" 15 "java/lang/IllegalStateException" ∈ BIG := List.mem_filter.mpr ⟨List.mem_of_getElem? (i := 486) (by decide +kernel), by decide +kernel⟩
theorem w_80931c432e : Cond.methodLink "TinyForgeLaw" 23 ⟨"TinyForge", "give", "(I)I"⟩ ∈ BIG := List.mem_filter.mpr ⟨List.mem_of_getElem? (i := 1035) (by decide +kernel), by decide +kernel⟩
theorem w_8141502ca9 : Cond.classLink "TinyForge" 23 "TinyForge$Tokens" ∈ BIG := List.mem_filter.mpr ⟨List.mem_of_getElem? (i := 188) (by decide +kernel), by decide +kernel⟩
theorem w_814a06e5c4 : Cond.instantiable "TinyForge$Text" 2 ∈ BIG := List.mem_filter.mpr ⟨List.mem_of_getElem? (i := 154) (by decide +kernel), by decide +kernel⟩
theorem w_823da67c83 : Cond.methodLink "TinyForge$Globals" 3 ⟨"java/lang/Object", "<init>", "()V"⟩ ∈ BIG := List.mem_filter.mpr ⟨List.mem_of_getElem? (i := 224) (by decide +kernel), by decide +kernel⟩
theorem w_82d42c8f7e : Cond.instantiable "TinyForge$Cursor" 4 ∈ BIG := List.mem_filter.mpr ⟨List.mem_of_getElem? (i := 311) (by decide +kernel), by decide +kernel⟩
theorem w_85ada66b48 : Cond.instanceMethod ⟨"TinyForge$Globals", "<init>", "(LTinyForge$Tokens;LTinyForge$Refusal;)V"⟩ ∈ BIG := List.mem_filter.mpr ⟨List.mem_of_getElem? (i := 222) (by decide +kernel), by decide +kernel⟩
theorem w_85dcc2a90e : Cond.methodLink "TinyForge" 34 ⟨"TinyForge$Globals", "<init>", "(LTinyForge$Tokens;LTinyForge$Refusal;)V"⟩ ∈ BIG := List.mem_filter.mpr ⟨List.mem_of_getElem? (i := 221) (by decide +kernel), by decide +kernel⟩
theorem w_893d6277d6 : Cond.methodLink "TinyForge" 53 ⟨"TinyForge$Cursor", "<init>", "(LTinyForge$Tokens;LTinyForge$Refusal;)V"⟩ ∈ BIG := List.mem_filter.mpr ⟨List.mem_of_getElem? (i := 312) (by decide +kernel), by decide +kernel⟩
theorem w_8b8cb02afd : Cond.instanceMethod ⟨"TinyForge", "give", "(I)I"⟩ ∈ BIG := List.mem_filter.mpr ⟨List.mem_of_getElem? (i := 1036) (by decide +kernel), by decide +kernel⟩
theorem w_8c576667a6 : Cond.methodLink "TinyForge$Program" 3 ⟨"java/lang/Object", "<init>", "()V"⟩ ∈ BIG := List.mem_filter.mpr ⟨List.mem_of_getElem? (i := 260) (by decide +kernel), by decide +kernel⟩
theorem w_93365a11ca : Cond.instanceMethod ⟨"TinyForge$Program", "<init>", "()V"⟩ ∈ BIG := List.mem_filter.mpr ⟨List.mem_of_getElem? (i := 258) (by decide +kernel), by decide +kernel⟩
theorem w_94e20bf45b : Cond.methodLink "TinyForgeModel" 1 ⟨"java/lang/Object", "<init>", "()V"⟩ ∈ BIG := List.mem_filter.mpr ⟨List.mem_of_getElem? (i := 1139) (by decide +kernel), by decide +kernel⟩
theorem w_95e7dd1386 : Cond.instanceMethod ⟨"TinyForge$Grammar", "<init>", "(LTinyForge$Cursor;LTinyForge$Variables;LTinyForge$Globals;LTinyForge$Program;)V"⟩ ∈ BIG := List.mem_filter.mpr ⟨List.mem_of_getElem? (i := 333) (by decide +kernel), by decide +kernel⟩
theorem w_a23e26d345 : Cond.methodLink "TinyForge$Cursor" 3 ⟨"java/lang/Object", "<init>", "()V"⟩ ∈ BIG := List.mem_filter.mpr ⟨List.mem_of_getElem? (i := 315) (by decide +kernel), by decide +kernel⟩
theorem w_a6e758f40e : Cond.code ⟨"TinyForge$Globals", "<init>", "(LTinyForge$Tokens;LTinyForge$Refusal;)V"⟩ prog_3_method_1_code 3 none ∈ BIG := List.mem_filter.mpr ⟨List.mem_of_getElem? (i := 223) (by decide +kernel), by decide +kernel⟩
theorem w_a85bc423ef : Cond.code ⟨"TinyForge$Machine", "<init>", "(LTinyForge$Program;LTinyForge$Input;)V"⟩ prog_6_method_1_code 3 none ∈ BIG := List.mem_filter.mpr ⟨List.mem_of_getElem? (i := 371) (by decide +kernel), by decide +kernel⟩
theorem w_aa9e85039f : Cond.initialized "TinyForge" ∈ BIG := List.mem_filter.mpr ⟨List.mem_of_getElem? (i := 120) (by decide +kernel), by decide +kernel⟩
theorem w_b38f8fb00e : Cond.methodLink "TinyForgeLaw" 7 ⟨"TinyForge", "type", "(JI)I"⟩ ∈ BIG := List.mem_filter.mpr ⟨List.mem_of_getElem? (i := 487) (by decide +kernel), by decide +kernel⟩
theorem w_b40cfc827f : Cond.instanceMethod ⟨"TinyForge", "run", "()I"⟩ ∈ BIG := List.mem_filter.mpr ⟨List.mem_of_getElem? (i := 1048) (by decide +kernel), by decide +kernel⟩
theorem w_b507219c27 : Cond.classLink "TinyForge" 70 "TinyForge$Machine" ∈ BIG := List.mem_filter.mpr ⟨List.mem_of_getElem? (i := 367) (by decide +kernel), by decide +kernel⟩
theorem w_b9b26dbac9 : Cond.instanceMethod ⟨"TinyForge$Input", "<init>", "()V"⟩ ∈ BIG := List.mem_filter.mpr ⟨List.mem_of_getElem? (i := 352) (by decide +kernel), by decide +kernel⟩
theorem w_bae0208e6f : Cond.classLink "TinyForge" 54 "TinyForge$Grammar" ∈ BIG := List.mem_filter.mpr ⟨List.mem_of_getElem? (i := 330) (by decide +kernel), by decide +kernel⟩
theorem w_c1f4565068 : Cond.code ⟨"TinyForge$Variables", "<init>", "(LTinyForge$Tokens;LTinyForge$Refusal;)V"⟩ prog_11_method_1_code 3 none ∈ BIG := List.mem_filter.mpr ⟨List.mem_of_getElem? (i := 292) (by decide +kernel), by decide +kernel⟩
theorem w_c37dd96a34 : Cond.arrayClass Jvm.ClassFile.FieldType.char ∈ BIG := List.mem_filter.mpr ⟨List.mem_of_getElem? (i := 169) (by decide +kernel), by decide +kernel⟩
theorem w_cbd7c51bae : Cond.methodLink "TinyForge" 50 ⟨"TinyForge$Variables", "<init>", "(LTinyForge$Tokens;LTinyForge$Refusal;)V"⟩ ∈ BIG := List.mem_filter.mpr ⟨List.mem_of_getElem? (i := 290) (by decide +kernel), by decide +kernel⟩
theorem w_d53e694851 : Cond.arrayClass Jvm.ClassFile.FieldType.boolean ∈ BIG := List.mem_filter.mpr ⟨List.mem_of_getElem? (i := 254) (by decide +kernel), by decide +kernel⟩
theorem w_d8abdb114a : Cond.selects "TinyForge" ⟨"TinyForge", "run", "()I"⟩ ⟨"TinyForge", "run", "()I"⟩ ∈ BIG := List.mem_filter.mpr ⟨List.mem_of_getElem? (i := 1049) (by decide +kernel), by decide +kernel⟩
theorem w_db3bbc61d9 : Cond.classLink "TinyForge" 9 "TinyForge$Text" ∈ BIG := List.mem_filter.mpr ⟨List.mem_of_getElem? (i := 153) (by decide +kernel), by decide +kernel⟩
theorem w_dc382ae1b5 : Cond.classLink "TinyForge" 41 "TinyForge$Program" ∈ BIG := List.mem_filter.mpr ⟨List.mem_of_getElem? (i := 255) (by decide +kernel), by decide +kernel⟩
theorem w_dcd9bd531a : Cond.instanceMethod ⟨"TinyForge$Machine", "<init>", "(LTinyForge$Program;LTinyForge$Input;)V"⟩ ∈ BIG := List.mem_filter.mpr ⟨List.mem_of_getElem? (i := 370) (by decide +kernel), by decide +kernel⟩
theorem w_de0c2debc2 : Cond.arrayClass Jvm.ClassFile.FieldType.long ∈ BIG := List.mem_filter.mpr ⟨List.mem_of_getElem? (i := 218) (by decide +kernel), by decide +kernel⟩
theorem w_e07f57bdca : Cond.methodLink "TinyForge$Machine" 3 ⟨"java/lang/Object", "<init>", "()V"⟩ ∈ BIG := List.mem_filter.mpr ⟨List.mem_of_getElem? (i := 372) (by decide +kernel), by decide +kernel⟩
theorem w_e3adb193d1 : Cond.code ⟨"TinyForge", "forge", "()I"⟩ prog_1_method_4_code 1 (some .int) ∈ BIG := List.mem_filter.mpr ⟨List.mem_of_getElem? (i := 591) (by decide +kernel), by decide +kernel⟩
theorem w_e4196cd67e : Cond.instanceMethod ⟨"TinyForge", "type", "(JI)I"⟩ ∈ BIG := List.mem_filter.mpr ⟨List.mem_of_getElem? (i := 488) (by decide +kernel), by decide +kernel⟩
theorem w_e679bd7133 : Cond.code ⟨"TinyForge", "run", "()I"⟩ prog_1_method_9_code 1 (some .int) ∈ BIG := List.mem_filter.mpr ⟨List.mem_of_getElem? (i := 1050) (by decide +kernel), by decide +kernel⟩
theorem w_eb2b78f37b : Cond.code ⟨"TinyForge", "type", "(JI)I"⟩ prog_1_method_2_code 4 (some .int) ∈ BIG := List.mem_filter.mpr ⟨List.mem_of_getElem? (i := 490) (by decide +kernel), by decide +kernel⟩
theorem w_f7f4804376 : Cond.classLink "TinyForgeLaw" 21 "java/lang/UnsupportedOperationException" ∈ BIG := List.mem_filter.mpr ⟨List.mem_of_getElem? (i := 587) (by decide +kernel), by decide +kernel⟩
theorem w_fa0a1704dc : Cond.instantiable "TinyForge$Program" 5 ∈ BIG := List.mem_filter.mpr ⟨List.mem_of_getElem? (i := 256) (by decide +kernel), by decide +kernel⟩
theorem w_fdd339d210 : Cond.instantiable "TinyForge$Input" 3 ∈ BIG := List.mem_filter.mpr ⟨List.mem_of_getElem? (i := 350) (by decide +kernel), by decide +kernel⟩
theorem w_fe4eeb2610 : Cond.code ⟨"TinyForge$Text", "<init>", "()V"⟩ prog_9_method_1_code 1 none ∈ BIG := List.mem_filter.mpr ⟨List.mem_of_getElem? (i := 157) (by decide +kernel), by decide +kernel⟩
theorem w_fed3b0f784 : Cond.code ⟨"TinyForge$Input", "<init>", "()V"⟩ prog_5_method_1_code 1 none ∈ BIG := List.mem_filter.mpr ⟨List.mem_of_getElem? (i := 353) (by decide +kernel), by decide +kernel⟩
theorem lk_Law_17 : LkV "TinyForgeLaw" 17 "TinyForge" y_Forge_forge b_Forge_forge 1 (some .int) 0 := ⟨⟨w_2f9dbc610a, w_aa9e85039f, w_e3adb193d1, by decide +kernel⟩, w_0722cd9d45, w_02743468b1⟩
theorem lk_Law_23 : LkV "TinyForgeLaw" 23 "TinyForge" y_Forge_give b_Forge_give 2 (some .int) 1 := ⟨⟨w_80931c432e, w_aa9e85039f, w_4969627150, by decide +kernel⟩, w_8b8cb02afd, w_22c75aa77f⟩
theorem lk_Law_27 : LkV "TinyForgeLaw" 27 "TinyForge" y_Forge_run b_Forge_run 1 (some .int) 0 := ⟨⟨w_25e92ec0cd, w_aa9e85039f, w_e679bd7133, by decide +kernel⟩, w_b40cfc827f, w_d8abdb114a⟩
theorem lk_Law_7 : LkV "TinyForgeLaw" 7 "TinyForge" y_Forge_type b_Forge_type 4 (some .int) 2 := ⟨⟨w_b38f8fb00e, w_aa9e85039f, w_eb2b78f37b, by decide +kernel⟩, w_e4196cd67e, w_076d0a4a86⟩
