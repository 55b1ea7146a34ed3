section
-- ===== PART A: goes FIRST, ahead of the names: the tables' words, and 'selects' of the private methods out of them =====
/-- a private method of a class that the tables say can be made, by its rows of tables_1 -/
def lw_okq (q : MethodName × Nat) : Prop := (q.1.cls ≠ "java/lang/invoke/MethodHandle" ∧ q.1.cls ≠ "java/lang/invoke/VarHandle") ∧ Cond.instantiable q.1.cls q.2 ∈ tables_1 ∧ Cond.privateMethod q.1 ∈ tables_1 ∧ Cond.instanceMethod q.1 ∈ tables_1
theorem lw_p0 : lw_okq (⟨"TrimmedPeaks$Scribe", "copyDown", "(Ljava/lang/String;)V"⟩, 6) := ⟨⟨by decide +kernel, by decide +kernel⟩, List.mem_of_getElem? (i := 24) (by decide +kernel), List.mem_of_getElem? (i := 117) (by decide +kernel), List.mem_of_getElem? (i := 118) (by decide +kernel)⟩
theorem lw_p1 : lw_okq (⟨"TrimmedPeaks$Scribe", "append", "(C)Z"⟩, 6) := ⟨⟨by decide +kernel, by decide +kernel⟩, List.mem_of_getElem? (i := 24) (by decide +kernel), List.mem_of_getElem? (i := 169) (by decide +kernel), List.mem_of_getElem? (i := 170) (by decide +kernel)⟩
theorem lw_p2 : lw_okq (⟨"TrimmedPeaks", "layAsTold", "()Z"⟩, 13) := ⟨⟨by decide +kernel, by decide +kernel⟩, List.mem_of_getElem? (i := 16) (by decide +kernel), List.mem_of_getElem? (i := 173) (by decide +kernel), List.mem_of_getElem? (i := 174) (by decide +kernel)⟩
theorem lw_p3 : lw_okq (⟨"TrimmedPeaks$Scribe", "readAll", "()I"⟩, 6) := ⟨⟨by decide +kernel, by decide +kernel⟩, List.mem_of_getElem? (i := 24) (by decide +kernel), List.mem_of_getElem? (i := 177) (by decide +kernel), List.mem_of_getElem? (i := 178) (by decide +kernel)⟩
theorem lw_p4 : lw_okq (⟨"TrimmedPeaks$Range", "clear", "()V"⟩, 5) := ⟨⟨by decide +kernel, by decide +kernel⟩, List.mem_of_getElem? (i := 30) (by decide +kernel), List.mem_of_getElem? (i := 181) (by decide +kernel), List.mem_of_getElem? (i := 182) (by decide +kernel)⟩
theorem lw_p5 : lw_okq (⟨"TrimmedPeaks$State", "clear", "()V"⟩, 1) := ⟨⟨by decide +kernel, by decide +kernel⟩, List.mem_of_getElem? (i := 56) (by decide +kernel), List.mem_of_getElem? (i := 185) (by decide +kernel), List.mem_of_getElem? (i := 186) (by decide +kernel)⟩
theorem lw_p6 : lw_okq (⟨"TrimmedPeaks$Scribe", "readItem", "()Z"⟩, 6) := ⟨⟨by decide +kernel, by decide +kernel⟩, List.mem_of_getElem? (i := 24) (by decide +kernel), List.mem_of_getElem? (i := 198) (by decide +kernel), List.mem_of_getElem? (i := 199) (by decide +kernel)⟩
theorem lw_p7 : lw_okq (⟨"TrimmedPeaks$Scribe", "letterAt", "(I)C"⟩, 6) := ⟨⟨by decide +kernel, by decide +kernel⟩, List.mem_of_getElem? (i := 24) (by decide +kernel), List.mem_of_getElem? (i := 202) (by decide +kernel), List.mem_of_getElem? (i := 203) (by decide +kernel)⟩
theorem lw_p8 : lw_okq (⟨"TrimmedPeaks$Scribe", "readNumber", "()I"⟩, 6) := ⟨⟨by decide +kernel, by decide +kernel⟩, List.mem_of_getElem? (i := 24) (by decide +kernel), List.mem_of_getElem? (i := 209) (by decide +kernel), List.mem_of_getElem? (i := 210) (by decide +kernel)⟩
theorem lw_p9 : lw_okq (⟨"TrimmedPeaks$Scribe", "heed", "(C)Z"⟩, 6) := ⟨⟨by decide +kernel, by decide +kernel⟩, List.mem_of_getElem? (i := 24) (by decide +kernel), List.mem_of_getElem? (i := 213) (by decide +kernel), List.mem_of_getElem? (i := 214) (by decide +kernel)⟩
theorem lw_p10 : lw_okq (⟨"TrimmedPeaks$Range", "tellPeak", "(II)Z"⟩, 5) := ⟨⟨by decide +kernel, by decide +kernel⟩, List.mem_of_getElem? (i := 30) (by decide +kernel), List.mem_of_getElem? (i := 217) (by decide +kernel), List.mem_of_getElem? (i := 218) (by decide +kernel)⟩
theorem lw_p11 : lw_okq (⟨"TrimmedPeaks$Scribe", "tellStore", "(II)Z"⟩, 6) := ⟨⟨by decide +kernel, by decide +kernel⟩, List.mem_of_getElem? (i := 24) (by decide +kernel), List.mem_of_getElem? (i := 221) (by decide +kernel), List.mem_of_getElem? (i := 222) (by decide +kernel)⟩
theorem lw_p12 : lw_okq (⟨"TrimmedPeaks$State", "setStore", "(II)V"⟩, 1) := ⟨⟨by decide +kernel, by decide +kernel⟩, List.mem_of_getElem? (i := 56) (by decide +kernel), List.mem_of_getElem? (i := 228) (by decide +kernel), List.mem_of_getElem? (i := 229) (by decide +kernel)⟩
theorem lw_p13 : lw_okq (⟨"TrimmedPeaks$Scribe", "tellOn", "(III)Z"⟩, 6) := ⟨⟨by decide +kernel, by decide +kernel⟩, List.mem_of_getElem? (i := 24) (by decide +kernel), List.mem_of_getElem? (i := 233) (by decide +kernel), List.mem_of_getElem? (i := 234) (by decide +kernel)⟩
theorem lw_p14 : lw_okq (⟨"TrimmedPeaks$Range", "isPeak", "(I)Z"⟩, 5) := ⟨⟨by decide +kernel, by decide +kernel⟩, List.mem_of_getElem? (i := 30) (by decide +kernel), List.mem_of_getElem? (i := 237) (by decide +kernel), List.mem_of_getElem? (i := 238) (by decide +kernel)⟩
theorem lw_p15 : lw_okq (⟨"TrimmedPeaks$State", "setPins", "(III)V"⟩, 1) := ⟨⟨by decide +kernel, by decide +kernel⟩, List.mem_of_getElem? (i := 56) (by decide +kernel), List.mem_of_getElem? (i := 244) (by decide +kernel), List.mem_of_getElem? (i := 245) (by decide +kernel)⟩
def lw_privs_1 : List (MethodName × Nat) := [(⟨"TrimmedPeaks$Scribe", "copyDown", "(Ljava/lang/String;)V"⟩, 6), (⟨"TrimmedPeaks$Scribe", "append", "(C)Z"⟩, 6), (⟨"TrimmedPeaks", "layAsTold", "()Z"⟩, 13), (⟨"TrimmedPeaks$Scribe", "readAll", "()I"⟩, 6), (⟨"TrimmedPeaks$Range", "clear", "()V"⟩, 5), (⟨"TrimmedPeaks$State", "clear", "()V"⟩, 1), (⟨"TrimmedPeaks$Scribe", "readItem", "()Z"⟩, 6), (⟨"TrimmedPeaks$Scribe", "letterAt", "(I)C"⟩, 6), (⟨"TrimmedPeaks$Scribe", "readNumber", "()I"⟩, 6), (⟨"TrimmedPeaks$Scribe", "heed", "(C)Z"⟩, 6), (⟨"TrimmedPeaks$Range", "tellPeak", "(II)Z"⟩, 5), (⟨"TrimmedPeaks$Scribe", "tellStore", "(II)Z"⟩, 6), (⟨"TrimmedPeaks$State", "setStore", "(II)V"⟩, 1), (⟨"TrimmedPeaks$Scribe", "tellOn", "(III)Z"⟩, 6), (⟨"TrimmedPeaks$Range", "isPeak", "(I)Z"⟩, 5), (⟨"TrimmedPeaks$State", "setPins", "(III)V"⟩, 1)]
theorem lw_r1 : ∀ q ∈ lw_privs_1, lw_okq q := List.forall_mem_cons.mpr ⟨lw_p0, List.forall_mem_cons.mpr ⟨lw_p1, List.forall_mem_cons.mpr ⟨lw_p2, List.forall_mem_cons.mpr ⟨lw_p3, List.forall_mem_cons.mpr ⟨lw_p4, List.forall_mem_cons.mpr ⟨lw_p5, List.forall_mem_cons.mpr ⟨lw_p6, List.forall_mem_cons.mpr ⟨lw_p7, List.forall_mem_cons.mpr ⟨lw_p8, List.forall_mem_cons.mpr ⟨lw_p9, List.forall_mem_cons.mpr ⟨lw_p10, List.forall_mem_cons.mpr ⟨lw_p11, List.forall_mem_cons.mpr ⟨lw_p12, List.forall_mem_cons.mpr ⟨lw_p13, List.forall_mem_cons.mpr ⟨lw_p14, List.forall_mem_cons.mpr ⟨lw_p15, fun _ h => absurd h List.not_mem_nil⟩⟩⟩⟩⟩⟩⟩⟩⟩⟩⟩⟩⟩⟩⟩⟩
theorem lw_p16 : lw_okq (⟨"TrimmedPeaks$Range", "tellWind", "(I)Z"⟩, 5) := ⟨⟨by decide +kernel, by decide +kernel⟩, List.mem_of_getElem? (i := 30) (by decide +kernel), List.mem_of_getElem? (i := 248) (by decide +kernel), List.mem_of_getElem? (i := 249) (by decide +kernel)⟩
theorem lw_p17 : lw_okq (⟨"TrimmedPeaks$Range", "become", "(LTrimmedPeaks$Range;)V"⟩, 5) := ⟨⟨by decide +kernel, by decide +kernel⟩, List.mem_of_getElem? (i := 30) (by decide +kernel), List.mem_of_getElem? (i := 252) (by decide +kernel), List.mem_of_getElem? (i := 253) (by decide +kernel)⟩
theorem lw_p18 : lw_okq (⟨"TrimmedPeaks$State", "become", "(LTrimmedPeaks$State;)V"⟩, 1) := ⟨⟨by decide +kernel, by decide +kernel⟩, List.mem_of_getElem? (i := 56) (by decide +kernel), List.mem_of_getElem? (i := 259) (by decide +kernel), List.mem_of_getElem? (i := 260) (by decide +kernel)⟩
theorem lw_p19 : lw_okq (⟨"TrimmedPeaks$State", "makeGuides", "()V"⟩, 1) := ⟨⟨by decide +kernel, by decide +kernel⟩, List.mem_of_getElem? (i := 56) (by decide +kernel), List.mem_of_getElem? (i := 264) (by decide +kernel), List.mem_of_getElem? (i := 265) (by decide +kernel)⟩
theorem lw_p20 : lw_okq (⟨"TrimmedPeaks$State", "looksOf", "(I)I"⟩, 1) := ⟨⟨by decide +kernel, by decide +kernel⟩, List.mem_of_getElem? (i := 56) (by decide +kernel), List.mem_of_getElem? (i := 268) (by decide +kernel), List.mem_of_getElem? (i := 269) (by decide +kernel)⟩
theorem lw_p21 : lw_okq (⟨"TrimmedPeaks$State", "isOn", "(II)Z"⟩, 1) := ⟨⟨by decide +kernel, by decide +kernel⟩, List.mem_of_getElem? (i := 56) (by decide +kernel), List.mem_of_getElem? (i := 272) (by decide +kernel), List.mem_of_getElem? (i := 273) (by decide +kernel)⟩
theorem lw_p22 : lw_okq (⟨"TrimmedPeaks$State", "pinsOn", "(II)I"⟩, 1) := ⟨⟨by decide +kernel, by decide +kernel⟩, List.mem_of_getElem? (i := 56) (by decide +kernel), List.mem_of_getElem? (i := 276) (by decide +kernel), List.mem_of_getElem? (i := 277) (by decide +kernel)⟩
theorem lw_p23 : lw_okq (⟨"TrimmedPeaks$Range", "kindOf", "(I)I"⟩, 5) := ⟨⟨by decide +kernel, by decide +kernel⟩, List.mem_of_getElem? (i := 30) (by decide +kernel), List.mem_of_getElem? (i := 347) (by decide +kernel), List.mem_of_getElem? (i := 348) (by decide +kernel)⟩
theorem lw_p24 : lw_okq (⟨"TrimmedPeaks$Range", "heightOf", "(I)I"⟩, 5) := ⟨⟨by decide +kernel, by decide +kernel⟩, List.mem_of_getElem? (i := 30) (by decide +kernel), List.mem_of_getElem? (i := 352) (by decide +kernel), List.mem_of_getElem? (i := 353) (by decide +kernel)⟩
theorem lw_p25 : lw_okq (⟨"TrimmedPeaks$State", "guideOf", "(I)I"⟩, 1) := ⟨⟨by decide +kernel, by decide +kernel⟩, List.mem_of_getElem? (i := 56) (by decide +kernel), List.mem_of_getElem? (i := 357) (by decide +kernel), List.mem_of_getElem? (i := 358) (by decide +kernel)⟩
theorem lw_p26 : lw_okq (⟨"TrimmedPeaks$State", "yearNow", "()I"⟩, 1) := ⟨⟨by decide +kernel, by decide +kernel⟩, List.mem_of_getElem? (i := 56) (by decide +kernel), List.mem_of_getElem? (i := 361) (by decide +kernel), List.mem_of_getElem? (i := 362) (by decide +kernel)⟩
theorem lw_p27 : lw_okq (⟨"TrimmedPeaks$Range", "windIn", "(I)I"⟩, 5) := ⟨⟨by decide +kernel, by decide +kernel⟩, List.mem_of_getElem? (i := 30) (by decide +kernel), List.mem_of_getElem? (i := 365) (by decide +kernel), List.mem_of_getElem? (i := 366) (by decide +kernel)⟩
theorem lw_p28 : lw_okq (⟨"TrimmedPeaks$Range", "forceAt", "(II)I"⟩, 5) := ⟨⟨by decide +kernel, by decide +kernel⟩, List.mem_of_getElem? (i := 30) (by decide +kernel), List.mem_of_getElem? (i := 369) (by decide +kernel), List.mem_of_getElem? (i := 370) (by decide +kernel)⟩
theorem lw_p29 : lw_okq (⟨"TrimmedPeaks", "lightOf", "(I)I"⟩, 13) := ⟨⟨by decide +kernel, by decide +kernel⟩, List.mem_of_getElem? (i := 16) (by decide +kernel), List.mem_of_getElem? (i := 375) (by decide +kernel), List.mem_of_getElem? (i := 376) (by decide +kernel)⟩
theorem lw_p30 : lw_okq (⟨"TrimmedPeaks", "shadeBy", "(II)I"⟩, 13) := ⟨⟨by decide +kernel, by decide +kernel⟩, List.mem_of_getElem? (i := 16) (by decide +kernel), List.mem_of_getElem? (i := 379) (by decide +kernel), List.mem_of_getElem? (i := 380) (by decide +kernel)⟩
theorem lw_p31 : lw_okq (⟨"TrimmedPeaks", "isPlace", "(II)Z"⟩, 13) := ⟨⟨by decide +kernel, by decide +kernel⟩, List.mem_of_getElem? (i := 16) (by decide +kernel), List.mem_of_getElem? (i := 388) (by decide +kernel), List.mem_of_getElem? (i := 389) (by decide +kernel)⟩
def lw_privs_2 : List (MethodName × Nat) := [(⟨"TrimmedPeaks$Range", "tellWind", "(I)Z"⟩, 5), (⟨"TrimmedPeaks$Range", "become", "(LTrimmedPeaks$Range;)V"⟩, 5), (⟨"TrimmedPeaks$State", "become", "(LTrimmedPeaks$State;)V"⟩, 1), (⟨"TrimmedPeaks$State", "makeGuides", "()V"⟩, 1), (⟨"TrimmedPeaks$State", "looksOf", "(I)I"⟩, 1), (⟨"TrimmedPeaks$State", "isOn", "(II)Z"⟩, 1), (⟨"TrimmedPeaks$State", "pinsOn", "(II)I"⟩, 1), (⟨"TrimmedPeaks$Range", "kindOf", "(I)I"⟩, 5), (⟨"TrimmedPeaks$Range", "heightOf", "(I)I"⟩, 5), (⟨"TrimmedPeaks$State", "guideOf", "(I)I"⟩, 1), (⟨"TrimmedPeaks$State", "yearNow", "()I"⟩, 1), (⟨"TrimmedPeaks$Range", "windIn", "(I)I"⟩, 5), (⟨"TrimmedPeaks$Range", "forceAt", "(II)I"⟩, 5), (⟨"TrimmedPeaks", "lightOf", "(I)I"⟩, 13), (⟨"TrimmedPeaks", "shadeBy", "(II)I"⟩, 13), (⟨"TrimmedPeaks", "isPlace", "(II)Z"⟩, 13)]
theorem lw_r2 : ∀ q ∈ lw_privs_2, lw_okq q := List.forall_mem_cons.mpr ⟨lw_p16, List.forall_mem_cons.mpr ⟨lw_p17, List.forall_mem_cons.mpr ⟨lw_p18, List.forall_mem_cons.mpr ⟨lw_p19, List.forall_mem_cons.mpr ⟨lw_p20, List.forall_mem_cons.mpr ⟨lw_p21, List.forall_mem_cons.mpr ⟨lw_p22, List.forall_mem_cons.mpr ⟨lw_p23, List.forall_mem_cons.mpr ⟨lw_p24, List.forall_mem_cons.mpr ⟨lw_p25, List.forall_mem_cons.mpr ⟨lw_p26, List.forall_mem_cons.mpr ⟨lw_p27, List.forall_mem_cons.mpr ⟨lw_p28, List.forall_mem_cons.mpr ⟨lw_p29, List.forall_mem_cons.mpr ⟨lw_p30, List.forall_mem_cons.mpr ⟨lw_p31, fun _ h => absurd h List.not_mem_nil⟩⟩⟩⟩⟩⟩⟩⟩⟩⟩⟩⟩⟩⟩⟩⟩
theorem lw_p32 : lw_okq (⟨"TrimmedPeaks$State", "inStore", "(I)I"⟩, 1) := ⟨⟨by decide +kernel, by decide +kernel⟩, List.mem_of_getElem? (i := 56) (by decide +kernel), List.mem_of_getElem? (i := 398) (by decide +kernel), List.mem_of_getElem? (i := 399) (by decide +kernel)⟩
theorem lw_p33 : lw_okq (⟨"TrimmedPeaks$State", "canPut", "(II)Z"⟩, 1) := ⟨⟨by decide +kernel, by decide +kernel⟩, List.mem_of_getElem? (i := 56) (by decide +kernel), List.mem_of_getElem? (i := 411) (by decide +kernel), List.mem_of_getElem? (i := 412) (by decide +kernel)⟩
theorem lw_p34 : lw_okq (⟨"TrimmedPeaks$Pile", "layBy", "(LTrimmedPeaks$State;)V"⟩, 4) := ⟨⟨by decide +kernel, by decide +kernel⟩, List.mem_of_getElem? (i := 93) (by decide +kernel), List.mem_of_getElem? (i := 416) (by decide +kernel), List.mem_of_getElem? (i := 417) (by decide +kernel)⟩
theorem lw_p35 : lw_okq (⟨"TrimmedPeaks$State", "putOn", "(III)V"⟩, 1) := ⟨⟨by decide +kernel, by decide +kernel⟩, List.mem_of_getElem? (i := 56) (by decide +kernel), List.mem_of_getElem? (i := 424) (by decide +kernel), List.mem_of_getElem? (i := 425) (by decide +kernel)⟩
theorem lw_p36 : lw_okq (⟨"TrimmedPeaks$State", "takeOff", "(II)V"⟩, 1) := ⟨⟨by decide +kernel, by decide +kernel⟩, List.mem_of_getElem? (i := 56) (by decide +kernel), List.mem_of_getElem? (i := 434) (by decide +kernel), List.mem_of_getElem? (i := 435) (by decide +kernel)⟩
theorem lw_p37 : lw_okq (⟨"TrimmedPeaks", "letYearsGoBy", "(LTrimmedPeaks$State;I)V"⟩, 13) := ⟨⟨by decide +kernel, by decide +kernel⟩, List.mem_of_getElem? (i := 16) (by decide +kernel), List.mem_of_getElem? (i := 447) (by decide +kernel), List.mem_of_getElem? (i := 448) (by decide +kernel)⟩
theorem lw_p38 : lw_okq (⟨"TrimmedPeaks$State", "letYearGoBy", "(LTrimmedPeaks$Range;)V"⟩, 1) := ⟨⟨by decide +kernel, by decide +kernel⟩, List.mem_of_getElem? (i := 56) (by decide +kernel), List.mem_of_getElem? (i := 451) (by decide +kernel), List.mem_of_getElem? (i := 452) (by decide +kernel)⟩
theorem lw_p39 : lw_okq (⟨"TrimmedPeaks$Range", "hasGoats", "(I)Z"⟩, 5) := ⟨⟨by decide +kernel, by decide +kernel⟩, List.mem_of_getElem? (i := 30) (by decide +kernel), List.mem_of_getElem? (i := 459) (by decide +kernel), List.mem_of_getElem? (i := 460) (by decide +kernel)⟩
theorem lw_p40 : lw_okq (⟨"TrimmedPeaks$Pile", "fetch", "(LTrimmedPeaks$State;)Z"⟩, 4) := ⟨⟨by decide +kernel, by decide +kernel⟩, List.mem_of_getElem? (i := 93) (by decide +kernel), List.mem_of_getElem? (i := 470) (by decide +kernel), List.mem_of_getElem? (i := 471) (by decide +kernel)⟩
theorem lw_p41 : lw_okq (⟨"TrimmedPeaks", "lookAt", "(LTrimmedPeaks$State;)V"⟩, 13) := ⟨⟨by decide +kernel, by decide +kernel⟩, List.mem_of_getElem? (i := 16) (by decide +kernel), List.mem_of_getElem? (i := 481) (by decide +kernel), List.mem_of_getElem? (i := 482) (by decide +kernel)⟩
theorem lw_p42 : lw_okq (⟨"TrimmedPeaks", "pairsAlike", "(I)I"⟩, 13) := ⟨⟨by decide +kernel, by decide +kernel⟩, List.mem_of_getElem? (i := 16) (by decide +kernel), List.mem_of_getElem? (i := 485) (by decide +kernel), List.mem_of_getElem? (i := 486) (by decide +kernel)⟩
theorem lw_p43 : lw_okq (⟨"TrimmedPeaks", "firstPairAlike", "()I"⟩, 13) := ⟨⟨by decide +kernel, by decide +kernel⟩, List.mem_of_getElem? (i := 16) (by decide +kernel), List.mem_of_getElem? (i := 489) (by decide +kernel), List.mem_of_getElem? (i := 490) (by decide +kernel)⟩
theorem lw_p44 : lw_okq (⟨"TrimmedPeaks", "knownBy", "(I)I"⟩, 13) := ⟨⟨by decide +kernel, by decide +kernel⟩, List.mem_of_getElem? (i := 16) (by decide +kernel), List.mem_of_getElem? (i := 497) (by decide +kernel), List.mem_of_getElem? (i := 498) (by decide +kernel)⟩
theorem lw_p45 : lw_okq (⟨"TrimmedPeaks", "pinsMoreAt", "(II)I"⟩, 13) := ⟨⟨by decide +kernel, by decide +kernel⟩, List.mem_of_getElem? (i := 16) (by decide +kernel), List.mem_of_getElem? (i := 513) (by decide +kernel), List.mem_of_getElem? (i := 514) (by decide +kernel)⟩
theorem lw_p46 : lw_okq (⟨"TrimmedPeaks", "pinsToHold", "(III)I"⟩, 13) := ⟨⟨by decide +kernel, by decide +kernel⟩, List.mem_of_getElem? (i := 16) (by decide +kernel), List.mem_of_getElem? (i := 518) (by decide +kernel), List.mem_of_getElem? (i := 519) (by decide +kernel)⟩
theorem lw_p47 : lw_okq (⟨"TrimmedPeaks", "smallestTellingSet", "()I"⟩, 13) := ⟨⟨by decide +kernel, by decide +kernel⟩, List.mem_of_getElem? (i := 16) (by decide +kernel), List.mem_of_getElem? (i := 527) (by decide +kernel), List.mem_of_getElem? (i := 528) (by decide +kernel)⟩
def lw_privs_3 : List (MethodName × Nat) := [(⟨"TrimmedPeaks$State", "inStore", "(I)I"⟩, 1), (⟨"TrimmedPeaks$State", "canPut", "(II)Z"⟩, 1), (⟨"TrimmedPeaks$Pile", "layBy", "(LTrimmedPeaks$State;)V"⟩, 4), (⟨"TrimmedPeaks$State", "putOn", "(III)V"⟩, 1), (⟨"TrimmedPeaks$State", "takeOff", "(II)V"⟩, 1), (⟨"TrimmedPeaks", "letYearsGoBy", "(LTrimmedPeaks$State;I)V"⟩, 13), (⟨"TrimmedPeaks$State", "letYearGoBy", "(LTrimmedPeaks$Range;)V"⟩, 1), (⟨"TrimmedPeaks$Range", "hasGoats", "(I)Z"⟩, 5), (⟨"TrimmedPeaks$Pile", "fetch", "(LTrimmedPeaks$State;)Z"⟩, 4), (⟨"TrimmedPeaks", "lookAt", "(LTrimmedPeaks$State;)V"⟩, 13), (⟨"TrimmedPeaks", "pairsAlike", "(I)I"⟩, 13), (⟨"TrimmedPeaks", "firstPairAlike", "()I"⟩, 13), (⟨"TrimmedPeaks", "knownBy", "(I)I"⟩, 13), (⟨"TrimmedPeaks", "pinsMoreAt", "(II)I"⟩, 13), (⟨"TrimmedPeaks", "pinsToHold", "(III)I"⟩, 13), (⟨"TrimmedPeaks", "smallestTellingSet", "()I"⟩, 13)]
theorem lw_r3 : ∀ q ∈ lw_privs_3, lw_okq q := List.forall_mem_cons.mpr ⟨lw_p32, List.forall_mem_cons.mpr ⟨lw_p33, List.forall_mem_cons.mpr ⟨lw_p34, List.forall_mem_cons.mpr ⟨lw_p35, List.forall_mem_cons.mpr ⟨lw_p36, List.forall_mem_cons.mpr ⟨lw_p37, List.forall_mem_cons.mpr ⟨lw_p38, List.forall_mem_cons.mpr ⟨lw_p39, List.forall_mem_cons.mpr ⟨lw_p40, List.forall_mem_cons.mpr ⟨lw_p41, List.forall_mem_cons.mpr ⟨lw_p42, List.forall_mem_cons.mpr ⟨lw_p43, List.forall_mem_cons.mpr ⟨lw_p44, List.forall_mem_cons.mpr ⟨lw_p45, List.forall_mem_cons.mpr ⟨lw_p46, List.forall_mem_cons.mpr ⟨lw_p47, fun _ h => absurd h List.not_mem_nil⟩⟩⟩⟩⟩⟩⟩⟩⟩⟩⟩⟩⟩⟩⟩⟩
theorem lw_p48 : lw_okq (⟨"TrimmedPeaks", "searchAdded", "()I"⟩, 13) := ⟨⟨by decide +kernel, by decide +kernel⟩, List.mem_of_getElem? (i := 16) (by decide +kernel), List.mem_of_getElem? (i := 541) (by decide +kernel), List.mem_of_getElem? (i := 542) (by decide +kernel)⟩
theorem lw_p49 : lw_okq (⟨"TrimmedPeaks", "isOneAddedEnough", "()Z"⟩, 13) := ⟨⟨by decide +kernel, by decide +kernel⟩, List.mem_of_getElem? (i := 16) (by decide +kernel), List.mem_of_getElem? (i := 545) (by decide +kernel), List.mem_of_getElem? (i := 546) (by decide +kernel)⟩
theorem lw_p50 : lw_okq (⟨"TrimmedPeaks", "canPutAt", "(I)Z"⟩, 13) := ⟨⟨by decide +kernel, by decide +kernel⟩, List.mem_of_getElem? (i := 16) (by decide +kernel), List.mem_of_getElem? (i := 549) (by decide +kernel), List.mem_of_getElem? (i := 550) (by decide +kernel)⟩
theorem lw_p51 : lw_okq (⟨"TrimmedPeaks", "isApartWith", "(I)Z"⟩, 13) := ⟨⟨by decide +kernel, by decide +kernel⟩, List.mem_of_getElem? (i := 16) (by decide +kernel), List.mem_of_getElem? (i := 553) (by decide +kernel), List.mem_of_getElem? (i := 554) (by decide +kernel)⟩
theorem lw_p52 : lw_okq (⟨"TrimmedPeaks", "turn", "(I)V"⟩, 13) := ⟨⟨by decide +kernel, by decide +kernel⟩, List.mem_of_getElem? (i := 16) (by decide +kernel), List.mem_of_getElem? (i := 557) (by decide +kernel), List.mem_of_getElem? (i := 558) (by decide +kernel)⟩
theorem lw_p53 : lw_okq (⟨"TrimmedPeaks", "areTwoAddedEnough", "()Z"⟩, 13) := ⟨⟨by decide +kernel, by decide +kernel⟩, List.mem_of_getElem? (i := 16) (by decide +kernel), List.mem_of_getElem? (i := 561) (by decide +kernel), List.mem_of_getElem? (i := 562) (by decide +kernel)⟩
theorem lw_p54 : lw_okq (⟨"TrimmedPeaks", "findSecondAdded", "(I)Z"⟩, 13) := ⟨⟨by decide +kernel, by decide +kernel⟩, List.mem_of_getElem? (i := 16) (by decide +kernel), List.mem_of_getElem? (i := 565) (by decide +kernel), List.mem_of_getElem? (i := 566) (by decide +kernel)⟩
theorem lw_p55 : lw_okq (⟨"TrimmedPeaks", "bestToAsk", "(I)I"⟩, 13) := ⟨⟨by decide +kernel, by decide +kernel⟩, List.mem_of_getElem? (i := 16) (by decide +kernel), List.mem_of_getElem? (i := 586) (by decide +kernel), List.mem_of_getElem? (i := 587) (by decide +kernel)⟩
theorem lw_p56 : lw_okq (⟨"TrimmedPeaks", "greaterPart", "(II)I"⟩, 13) := ⟨⟨by decide +kernel, by decide +kernel⟩, List.mem_of_getElem? (i := 16) (by decide +kernel), List.mem_of_getElem? (i := 590) (by decide +kernel), List.mem_of_getElem? (i := 591) (by decide +kernel)⟩
theorem lw_p57 : lw_okq (⟨"TrimmedPeaks", "countWays", "()V"⟩, 13) := ⟨⟨by decide +kernel, by decide +kernel⟩, List.mem_of_getElem? (i := 16) (by decide +kernel), List.mem_of_getElem? (i := 598) (by decide +kernel), List.mem_of_getElem? (i := 599) (by decide +kernel)⟩
theorem lw_p58 : lw_okq (⟨"TrimmedPeaks", "fitsGuideOf", "(II)Z"⟩, 13) := ⟨⟨by decide +kernel, by decide +kernel⟩, List.mem_of_getElem? (i := 16) (by decide +kernel), List.mem_of_getElem? (i := 602) (by decide +kernel), List.mem_of_getElem? (i := 603) (by decide +kernel)⟩
theorem lw_p59 : lw_okq (⟨"TrimmedPeaks", "guideInFirstWay", "(I)I"⟩, 13) := ⟨⟨by decide +kernel, by decide +kernel⟩, List.mem_of_getElem? (i := 16) (by decide +kernel), List.mem_of_getElem? (i := 606) (by decide +kernel), List.mem_of_getElem? (i := 607) (by decide +kernel)⟩
theorem lw_p60 : lw_okq (⟨"TrimmedPeaks", "lowestGuideFor", "(II)I"⟩, 13) := ⟨⟨by decide +kernel, by decide +kernel⟩, List.mem_of_getElem? (i := 16) (by decide +kernel), List.mem_of_getElem? (i := 610) (by decide +kernel), List.mem_of_getElem? (i := 611) (by decide +kernel)⟩
theorem lw_p61 : lw_okq (⟨"TrimmedPeaks", "waysToStay", "(IIIII)I"⟩, 13) := ⟨⟨by decide +kernel, by decide +kernel⟩, List.mem_of_getElem? (i := 16) (by decide +kernel), List.mem_of_getElem? (i := 618) (by decide +kernel), List.mem_of_getElem? (i := 619) (by decide +kernel)⟩
theorem lw_p62 : lw_okq (⟨"TrimmedPeaks", "blowGust", "(III)Z"⟩, 13) := ⟨⟨by decide +kernel, by decide +kernel⟩, List.mem_of_getElem? (i := 16) (by decide +kernel), List.mem_of_getElem? (i := 622) (by decide +kernel), List.mem_of_getElem? (i := 623) (by decide +kernel)⟩
theorem lw_p63 : lw_okq (⟨"TrimmedPeaks", "trimByDraw", "(LTrimmedPeaks$State;I)V"⟩, 13) := ⟨⟨by decide +kernel, by decide +kernel⟩, List.mem_of_getElem? (i := 16) (by decide +kernel), List.mem_of_getElem? (i := 641) (by decide +kernel), List.mem_of_getElem? (i := 642) (by decide +kernel)⟩
def lw_privs_4 : List (MethodName × Nat) := [(⟨"TrimmedPeaks", "searchAdded", "()I"⟩, 13), (⟨"TrimmedPeaks", "isOneAddedEnough", "()Z"⟩, 13), (⟨"TrimmedPeaks", "canPutAt", "(I)Z"⟩, 13), (⟨"TrimmedPeaks", "isApartWith", "(I)Z"⟩, 13), (⟨"TrimmedPeaks", "turn", "(I)V"⟩, 13), (⟨"TrimmedPeaks", "areTwoAddedEnough", "()Z"⟩, 13), (⟨"TrimmedPeaks", "findSecondAdded", "(I)Z"⟩, 13), (⟨"TrimmedPeaks", "bestToAsk", "(I)I"⟩, 13), (⟨"TrimmedPeaks", "greaterPart", "(II)I"⟩, 13), (⟨"TrimmedPeaks", "countWays", "()V"⟩, 13), (⟨"TrimmedPeaks", "fitsGuideOf", "(II)Z"⟩, 13), (⟨"TrimmedPeaks", "guideInFirstWay", "(I)I"⟩, 13), (⟨"TrimmedPeaks", "lowestGuideFor", "(II)I"⟩, 13), (⟨"TrimmedPeaks", "waysToStay", "(IIIII)I"⟩, 13), (⟨"TrimmedPeaks", "blowGust", "(III)Z"⟩, 13), (⟨"TrimmedPeaks", "trimByDraw", "(LTrimmedPeaks$State;I)V"⟩, 13)]
theorem lw_r4 : ∀ q ∈ lw_privs_4, lw_okq q := List.forall_mem_cons.mpr ⟨lw_p48, List.forall_mem_cons.mpr ⟨lw_p49, List.forall_mem_cons.mpr ⟨lw_p50, List.forall_mem_cons.mpr ⟨lw_p51, List.forall_mem_cons.mpr ⟨lw_p52, List.forall_mem_cons.mpr ⟨lw_p53, List.forall_mem_cons.mpr ⟨lw_p54, List.forall_mem_cons.mpr ⟨lw_p55, List.forall_mem_cons.mpr ⟨lw_p56, List.forall_mem_cons.mpr ⟨lw_p57, List.forall_mem_cons.mpr ⟨lw_p58, List.forall_mem_cons.mpr ⟨lw_p59, List.forall_mem_cons.mpr ⟨lw_p60, List.forall_mem_cons.mpr ⟨lw_p61, List.forall_mem_cons.mpr ⟨lw_p62, List.forall_mem_cons.mpr ⟨lw_p63, fun _ h => absurd h List.not_mem_nil⟩⟩⟩⟩⟩⟩⟩⟩⟩⟩⟩⟩⟩⟩⟩⟩
theorem lw_p64 : lw_okq (⟨"TrimmedPeaks$State", "trimmingsOn", "()I"⟩, 1) := ⟨⟨by decide +kernel, by decide +kernel⟩, List.mem_of_getElem? (i := 56) (by decide +kernel), List.mem_of_getElem? (i := 645) (by decide +kernel), List.mem_of_getElem? (i := 646) (by decide +kernel)⟩
theorem lw_p65 : lw_okq (⟨"TrimmedPeaks$State", "sumOf", "(II)I"⟩, 1) := ⟨⟨by decide +kernel, by decide +kernel⟩, List.mem_of_getElem? (i := 56) (by decide +kernel), List.mem_of_getElem? (i := 662) (by decide +kernel), List.mem_of_getElem? (i := 663) (by decide +kernel)⟩
theorem lw_p66 : lw_okq (⟨"TrimmedPeaks", "peaksKnownAsThemselves", "()I"⟩, 13) := ⟨⟨by decide +kernel, by decide +kernel⟩, List.mem_of_getElem? (i := 16) (by decide +kernel), List.mem_of_getElem? (i := 667) (by decide +kernel), List.mem_of_getElem? (i := 668) (by decide +kernel)⟩
theorem lw_p67 : lw_okq (⟨"TrimmedPeaksModel", "firstPeak", "(II)V"⟩, 30) := ⟨⟨by decide +kernel, by decide +kernel⟩, List.mem_of_getElem? (i := 671) (by decide +kernel), List.mem_of_getElem? (i := 677) (by decide +kernel), List.mem_of_getElem? (i := 678) (by decide +kernel)⟩
theorem lw_p68 : lw_okq (⟨"TrimmedPeaksModel", "setGuides", "()V"⟩, 30) := ⟨⟨by decide +kernel, by decide +kernel⟩, List.mem_of_getElem? (i := 671) (by decide +kernel), List.mem_of_getElem? (i := 681) (by decide +kernel), List.mem_of_getElem? (i := 682) (by decide +kernel)⟩
theorem lw_p69 : lw_okq (⟨"TrimmedPeaksModel", "looks", "(I)I"⟩, 30) := ⟨⟨by decide +kernel, by decide +kernel⟩, List.mem_of_getElem? (i := 671) (by decide +kernel), List.mem_of_getElem? (i := 685) (by decide +kernel), List.mem_of_getElem? (i := 686) (by decide +kernel)⟩
theorem lw_p70 : lw_okq (⟨"TrimmedPeaksModel", "readsItem", "()Z"⟩, 30) := ⟨⟨by decide +kernel, by decide +kernel⟩, List.mem_of_getElem? (i := 671) (by decide +kernel), List.mem_of_getElem? (i := 795) (by decide +kernel), List.mem_of_getElem? (i := 796) (by decide +kernel)⟩
theorem lw_p71 : lw_okq (⟨"TrimmedPeaksModel", "here", "()I"⟩, 30) := ⟨⟨by decide +kernel, by decide +kernel⟩, List.mem_of_getElem? (i := 671) (by decide +kernel), List.mem_of_getElem? (i := 799) (by decide +kernel), List.mem_of_getElem? (i := 800) (by decide +kernel)⟩
theorem lw_p72 : lw_okq (⟨"TrimmedPeaksModel", "readsPeak", "()Z"⟩, 30) := ⟨⟨by decide +kernel, by decide +kernel⟩, List.mem_of_getElem? (i := 671) (by decide +kernel), List.mem_of_getElem? (i := 803) (by decide +kernel), List.mem_of_getElem? (i := 804) (by decide +kernel)⟩
theorem lw_p73 : lw_okq (⟨"TrimmedPeaksModel", "number", "(III)Z"⟩, 30) := ⟨⟨by decide +kernel, by decide +kernel⟩, List.mem_of_getElem? (i := 671) (by decide +kernel), List.mem_of_getElem? (i := 807) (by decide +kernel), List.mem_of_getElem? (i := 808) (by decide +kernel)⟩
theorem lw_p74 : lw_okq (⟨"TrimmedPeaksModel", "isFigure", "()Z"⟩, 30) := ⟨⟨by decide +kernel, by decide +kernel⟩, List.mem_of_getElem? (i := 671) (by decide +kernel), List.mem_of_getElem? (i := 811) (by decide +kernel), List.mem_of_getElem? (i := 812) (by decide +kernel)⟩
theorem lw_p75 : lw_okq (⟨"TrimmedPeaksModel", "readsStore", "()Z"⟩, 30) := ⟨⟨by decide +kernel, by decide +kernel⟩, List.mem_of_getElem? (i := 671) (by decide +kernel), List.mem_of_getElem? (i := 815) (by decide +kernel), List.mem_of_getElem? (i := 816) (by decide +kernel)⟩
theorem lw_p76 : lw_okq (⟨"TrimmedPeaksModel", "readsOn", "()Z"⟩, 30) := ⟨⟨by decide +kernel, by decide +kernel⟩, List.mem_of_getElem? (i := 671) (by decide +kernel), List.mem_of_getElem? (i := 819) (by decide +kernel), List.mem_of_getElem? (i := 820) (by decide +kernel)⟩
theorem lw_p77 : lw_okq (⟨"TrimmedPeaksModel", "readsWind", "()Z"⟩, 30) := ⟨⟨by decide +kernel, by decide +kernel⟩, List.mem_of_getElem? (i := 671) (by decide +kernel), List.mem_of_getElem? (i := 823) (by decide +kernel), List.mem_of_getElem? (i := 824) (by decide +kernel)⟩
theorem lw_p78 : lw_okq (⟨"TrimmedPeaksModel", "isPeak", "(I)Z"⟩, 30) := ⟨⟨by decide +kernel, by decide +kernel⟩, List.mem_of_getElem? (i := 671) (by decide +kernel), List.mem_of_getElem? (i := 836) (by decide +kernel), List.mem_of_getElem? (i := 837) (by decide +kernel)⟩
theorem lw_p79 : lw_okq (⟨"TrimmedPeaksModel", "windOf", "(I)I"⟩, 30) := ⟨⟨by decide +kernel, by decide +kernel⟩, List.mem_of_getElem? (i := 671) (by decide +kernel), List.mem_of_getElem? (i := 840) (by decide +kernel), List.mem_of_getElem? (i := 841) (by decide +kernel)⟩
def lw_privs_5 : List (MethodName × Nat) := [(⟨"TrimmedPeaks$State", "trimmingsOn", "()I"⟩, 1), (⟨"TrimmedPeaks$State", "sumOf", "(II)I"⟩, 1), (⟨"TrimmedPeaks", "peaksKnownAsThemselves", "()I"⟩, 13), (⟨"TrimmedPeaksModel", "firstPeak", "(II)V"⟩, 30), (⟨"TrimmedPeaksModel", "setGuides", "()V"⟩, 30), (⟨"TrimmedPeaksModel", "looks", "(I)I"⟩, 30), (⟨"TrimmedPeaksModel", "readsItem", "()Z"⟩, 30), (⟨"TrimmedPeaksModel", "here", "()I"⟩, 30), (⟨"TrimmedPeaksModel", "readsPeak", "()Z"⟩, 30), (⟨"TrimmedPeaksModel", "number", "(III)Z"⟩, 30), (⟨"TrimmedPeaksModel", "isFigure", "()Z"⟩, 30), (⟨"TrimmedPeaksModel", "readsStore", "()Z"⟩, 30), (⟨"TrimmedPeaksModel", "readsOn", "()Z"⟩, 30), (⟨"TrimmedPeaksModel", "readsWind", "()Z"⟩, 30), (⟨"TrimmedPeaksModel", "isPeak", "(I)Z"⟩, 30), (⟨"TrimmedPeaksModel", "windOf", "(I)I"⟩, 30)]
theorem lw_r5 : ∀ q ∈ lw_privs_5, lw_okq q := List.forall_mem_cons.mpr ⟨lw_p64, List.forall_mem_cons.mpr ⟨lw_p65, List.forall_mem_cons.mpr ⟨lw_p66, List.forall_mem_cons.mpr ⟨lw_p67, List.forall_mem_cons.mpr ⟨lw_p68, List.forall_mem_cons.mpr ⟨lw_p69, List.forall_mem_cons.mpr ⟨lw_p70, List.forall_mem_cons.mpr ⟨lw_p71, List.forall_mem_cons.mpr ⟨lw_p72, List.forall_mem_cons.mpr ⟨lw_p73, List.forall_mem_cons.mpr ⟨lw_p74, List.forall_mem_cons.mpr ⟨lw_p75, List.forall_mem_cons.mpr ⟨lw_p76, List.forall_mem_cons.mpr ⟨lw_p77, List.forall_mem_cons.mpr ⟨lw_p78, List.forall_mem_cons.mpr ⟨lw_p79, fun _ h => absurd h List.not_mem_nil⟩⟩⟩⟩⟩⟩⟩⟩⟩⟩⟩⟩⟩⟩⟩⟩
theorem lw_p80 : lw_okq (⟨"TrimmedPeaksModel", "forceBy", "(II)I"⟩, 30) := ⟨⟨by decide +kernel, by decide +kernel⟩, List.mem_of_getElem? (i := 671) (by decide +kernel), List.mem_of_getElem? (i := 844) (by decide +kernel), List.mem_of_getElem? (i := 845) (by decide +kernel)⟩
theorem lw_p81 : lw_okq (⟨"TrimmedPeaksModel", "light", "(I)I"⟩, 30) := ⟨⟨by decide +kernel, by decide +kernel⟩, List.mem_of_getElem? (i := 671) (by decide +kernel), List.mem_of_getElem? (i := 851) (by decide +kernel), List.mem_of_getElem? (i := 852) (by decide +kernel)⟩
theorem lw_p82 : lw_okq (⟨"TrimmedPeaksModel", "mayPut", "(II)Z"⟩, 30) := ⟨⟨by decide +kernel, by decide +kernel⟩, List.mem_of_getElem? (i := 671) (by decide +kernel), List.mem_of_getElem? (i := 877) (by decide +kernel), List.mem_of_getElem? (i := 878) (by decide +kernel)⟩
theorem lw_p83 : lw_okq (⟨"TrimmedPeaksModel", "notes", "()V"⟩, 30) := ⟨⟨by decide +kernel, by decide +kernel⟩, List.mem_of_getElem? (i := 671) (by decide +kernel), List.mem_of_getElem? (i := 881) (by decide +kernel), List.mem_of_getElem? (i := 882) (by decide +kernel)⟩
theorem lw_p84 : lw_okq (⟨"TrimmedPeaksModel", "lays", "([II)V"⟩, 30) := ⟨⟨by decide +kernel, by decide +kernel⟩, List.mem_of_getElem? (i := 671) (by decide +kernel), List.mem_of_getElem? (i := 885) (by decide +kernel), List.mem_of_getElem? (i := 886) (by decide +kernel)⟩
theorem lw_p85 : lw_okq (⟨"TrimmedPeaksModel", "puts", "(III)V"⟩, 30) := ⟨⟨by decide +kernel, by decide +kernel⟩, List.mem_of_getElem? (i := 671) (by decide +kernel), List.mem_of_getElem? (i := 889) (by decide +kernel), List.mem_of_getElem? (i := 890) (by decide +kernel)⟩
theorem lw_p86 : lw_okq (⟨"TrimmedPeaksModel", "takesOff", "(II)V"⟩, 30) := ⟨⟨by decide +kernel, by decide +kernel⟩, List.mem_of_getElem? (i := 671) (by decide +kernel), List.mem_of_getElem? (i := 897) (by decide +kernel), List.mem_of_getElem? (i := 898) (by decide +kernel)⟩
theorem lw_p87 : lw_okq (⟨"TrimmedPeaksModel", "goesOn", "(I)V"⟩, 30) := ⟨⟨by decide +kernel, by decide +kernel⟩, List.mem_of_getElem? (i := 671) (by decide +kernel), List.mem_of_getElem? (i := 909) (by decide +kernel), List.mem_of_getElem? (i := 910) (by decide +kernel)⟩
theorem lw_p88 : lw_okq (⟨"TrimmedPeaksModel", "passesBy", "(I)V"⟩, 30) := ⟨⟨by decide +kernel, by decide +kernel⟩, List.mem_of_getElem? (i := 671) (by decide +kernel), List.mem_of_getElem? (i := 913) (by decide +kernel), List.mem_of_getElem? (i := 914) (by decide +kernel)⟩
theorem lw_p89 : lw_okq (⟨"TrimmedPeaksModel", "takes", "([II)V"⟩, 30) := ⟨⟨by decide +kernel, by decide +kernel⟩, List.mem_of_getElem? (i := 671) (by decide +kernel), List.mem_of_getElem? (i := 921) (by decide +kernel), List.mem_of_getElem? (i := 922) (by decide +kernel)⟩
theorem lw_p90 : lw_okq (⟨"TrimmedPeaksModel", "pairsAlike", "()I"⟩, 30) := ⟨⟨by decide +kernel, by decide +kernel⟩, List.mem_of_getElem? (i := 671) (by decide +kernel), List.mem_of_getElem? (i := 929) (by decide +kernel), List.mem_of_getElem? (i := 930) (by decide +kernel)⟩
theorem lw_p91 : lw_okq (⟨"TrimmedPeaksModel", "knownBy", "(I)I"⟩, 30) := ⟨⟨by decide +kernel, by decide +kernel⟩, List.mem_of_getElem? (i := 671) (by decide +kernel), List.mem_of_getElem? (i := 937) (by decide +kernel), List.mem_of_getElem? (i := 938) (by decide +kernel)⟩
theorem lw_p92 : lw_okq (⟨"TrimmedPeaksModel", "begin", "()V"⟩, 30) := ⟨⟨by decide +kernel, by decide +kernel⟩, List.mem_of_getElem? (i := 671) (by decide +kernel), List.mem_of_getElem? (i := 945) (by decide +kernel), List.mem_of_getElem? (i := 946) (by decide +kernel)⟩
theorem lw_p93 : lw_okq (⟨"TrimmedPeaksModel", "putBack", "()V"⟩, 30) := ⟨⟨by decide +kernel, by decide +kernel⟩, List.mem_of_getElem? (i := 671) (by decide +kernel), List.mem_of_getElem? (i := 949) (by decide +kernel), List.mem_of_getElem? (i := 950) (by decide +kernel)⟩
theorem lw_p94 : lw_okq (⟨"TrimmedPeaksModel", "needed", "(III)I"⟩, 30) := ⟨⟨by decide +kernel, by decide +kernel⟩, List.mem_of_getElem? (i := 671) (by decide +kernel), List.mem_of_getElem? (i := 961) (by decide +kernel), List.mem_of_getElem? (i := 962) (by decide +kernel)⟩
theorem lw_p95 : lw_okq (⟨"TrimmedPeaksModel", "tells", "(I)Z"⟩, 30) := ⟨⟨by decide +kernel, by decide +kernel⟩, List.mem_of_getElem? (i := 671) (by decide +kernel), List.mem_of_getElem? (i := 973) (by decide +kernel), List.mem_of_getElem? (i := 974) (by decide +kernel)⟩
def lw_privs_6 : List (MethodName × Nat) := [(⟨"TrimmedPeaksModel", "forceBy", "(II)I"⟩, 30), (⟨"TrimmedPeaksModel", "light", "(I)I"⟩, 30), (⟨"TrimmedPeaksModel", "mayPut", "(II)Z"⟩, 30), (⟨"TrimmedPeaksModel", "notes", "()V"⟩, 30), (⟨"TrimmedPeaksModel", "lays", "([II)V"⟩, 30), (⟨"TrimmedPeaksModel", "puts", "(III)V"⟩, 30), (⟨"TrimmedPeaksModel", "takesOff", "(II)V"⟩, 30), (⟨"TrimmedPeaksModel", "goesOn", "(I)V"⟩, 30), (⟨"TrimmedPeaksModel", "passesBy", "(I)V"⟩, 30), (⟨"TrimmedPeaksModel", "takes", "([II)V"⟩, 30), (⟨"TrimmedPeaksModel", "pairsAlike", "()I"⟩, 30), (⟨"TrimmedPeaksModel", "knownBy", "(I)I"⟩, 30), (⟨"TrimmedPeaksModel", "begin", "()V"⟩, 30), (⟨"TrimmedPeaksModel", "putBack", "()V"⟩, 30), (⟨"TrimmedPeaksModel", "needed", "(III)I"⟩, 30), (⟨"TrimmedPeaksModel", "tells", "(I)Z"⟩, 30)]
theorem lw_r6 : ∀ q ∈ lw_privs_6, lw_okq q := List.forall_mem_cons.mpr ⟨lw_p80, List.forall_mem_cons.mpr ⟨lw_p81, List.forall_mem_cons.mpr ⟨lw_p82, List.forall_mem_cons.mpr ⟨lw_p83, List.forall_mem_cons.mpr ⟨lw_p84, List.forall_mem_cons.mpr ⟨lw_p85, List.forall_mem_cons.mpr ⟨lw_p86, List.forall_mem_cons.mpr ⟨lw_p87, List.forall_mem_cons.mpr ⟨lw_p88, List.forall_mem_cons.mpr ⟨lw_p89, List.forall_mem_cons.mpr ⟨lw_p90, List.forall_mem_cons.mpr ⟨lw_p91, List.forall_mem_cons.mpr ⟨lw_p92, List.forall_mem_cons.mpr ⟨lw_p93, List.forall_mem_cons.mpr ⟨lw_p94, List.forall_mem_cons.mpr ⟨lw_p95, fun _ h => absurd h List.not_mem_nil⟩⟩⟩⟩⟩⟩⟩⟩⟩⟩⟩⟩⟩⟩⟩⟩
theorem lw_p96 : lw_okq (⟨"TrimmedPeaksModel", "adds", "()I"⟩, 30) := ⟨⟨by decide +kernel, by decide +kernel⟩, List.mem_of_getElem? (i := 671) (by decide +kernel), List.mem_of_getElem? (i := 981) (by decide +kernel), List.mem_of_getElem? (i := 982) (by decide +kernel)⟩
theorem lw_p97 : lw_okq (⟨"TrimmedPeaksModel", "those", "()I"⟩, 30) := ⟨⟨by decide +kernel, by decide +kernel⟩, List.mem_of_getElem? (i := 671) (by decide +kernel), List.mem_of_getElem? (i := 997) (by decide +kernel), List.mem_of_getElem? (i := 998) (by decide +kernel)⟩
theorem lw_p98 : lw_okq (⟨"TrimmedPeaksModel", "setWays", "()V"⟩, 30) := ⟨⟨by decide +kernel, by decide +kernel⟩, List.mem_of_getElem? (i := 671) (by decide +kernel), List.mem_of_getElem? (i := 1009) (by decide +kernel), List.mem_of_getElem? (i := 1010) (by decide +kernel)⟩
theorem lw_p99 : lw_okq (⟨"TrimmedPeaksModel", "mayHave", "(II)Z"⟩, 30) := ⟨⟨by decide +kernel, by decide +kernel⟩, List.mem_of_getElem? (i := 671) (by decide +kernel), List.mem_of_getElem? (i := 1013) (by decide +kernel), List.mem_of_getElem? (i := 1014) (by decide +kernel)⟩
theorem lw_p100 : lw_okq (⟨"TrimmedPeaksModel", "onMany", "()I"⟩, 30) := ⟨⟨by decide +kernel, by decide +kernel⟩, List.mem_of_getElem? (i := 671) (by decide +kernel), List.mem_of_getElem? (i := 1032) (by decide +kernel), List.mem_of_getElem? (i := 1033) (by decide +kernel)⟩
theorem lw_p101 : lw_okq (⟨"TrimmedPeaksModel", "storedAll", "()I"⟩, 30) := ⟨⟨by decide +kernel, by decide +kernel⟩, List.mem_of_getElem? (i := 671) (by decide +kernel), List.mem_of_getElem? (i := 1048) (by decide +kernel), List.mem_of_getElem? (i := 1049) (by decide +kernel)⟩
theorem lw_p102 : lw_okq (⟨"TrimmedPeaksModel", "pinsAll", "()I"⟩, 30) := ⟨⟨by decide +kernel, by decide +kernel⟩, List.mem_of_getElem? (i := 671) (by decide +kernel), List.mem_of_getElem? (i := 1052) (by decide +kernel), List.mem_of_getElem? (i := 1053) (by decide +kernel)⟩
theorem lw_p103 : lw_okq (⟨"TrimmedPeaksModel", "ownKnown", "()I"⟩, 30) := ⟨⟨by decide +kernel, by decide +kernel⟩, List.mem_of_getElem? (i := 671) (by decide +kernel), List.mem_of_getElem? (i := 1056) (by decide +kernel), List.mem_of_getElem? (i := 1057) (by decide +kernel)⟩
def lw_privs_7 : List (MethodName × Nat) := [(⟨"TrimmedPeaksModel", "adds", "()I"⟩, 30), (⟨"TrimmedPeaksModel", "those", "()I"⟩, 30), (⟨"TrimmedPeaksModel", "setWays", "()V"⟩, 30), (⟨"TrimmedPeaksModel", "mayHave", "(II)Z"⟩, 30), (⟨"TrimmedPeaksModel", "onMany", "()I"⟩, 30), (⟨"TrimmedPeaksModel", "storedAll", "()I"⟩, 30), (⟨"TrimmedPeaksModel", "pinsAll", "()I"⟩, 30), (⟨"TrimmedPeaksModel", "ownKnown", "()I"⟩, 30)]
theorem lw_r7 : ∀ q ∈ lw_privs_7, lw_okq q := List.forall_mem_cons.mpr ⟨lw_p96, List.forall_mem_cons.mpr ⟨lw_p97, List.forall_mem_cons.mpr ⟨lw_p98, List.forall_mem_cons.mpr ⟨lw_p99, List.forall_mem_cons.mpr ⟨lw_p100, List.forall_mem_cons.mpr ⟨lw_p101, List.forall_mem_cons.mpr ⟨lw_p102, List.forall_mem_cons.mpr ⟨lw_p103, fun _ h => absurd h List.not_mem_nil⟩⟩⟩⟩⟩⟩⟩⟩
def lw_privs : List (MethodName × Nat) := lw_privs_1 ++ (lw_privs_2 ++ (lw_privs_3 ++ (lw_privs_4 ++ (lw_privs_5 ++ (lw_privs_6 ++ (lw_privs_7))))))
def lw_tbl : List Cond := k2_sels lw_privs ++ tables_1
theorem lw_privs_ok : ∀ q ∈ lw_privs, lw_okq q := by
  show ∀ q ∈ lw_privs_1 ++ (lw_privs_2 ++ (lw_privs_3 ++ (lw_privs_4 ++ (lw_privs_5 ++ (lw_privs_6 ++ (lw_privs_7)))))), lw_okq q
  exact List.forall_mem_append.mpr ⟨lw_r1, List.forall_mem_append.mpr ⟨lw_r2, List.forall_mem_append.mpr ⟨lw_r3, List.forall_mem_append.mpr ⟨lw_r4, List.forall_mem_append.mpr ⟨lw_r5, List.forall_mem_append.mpr ⟨lw_r6, lw_r7⟩⟩⟩⟩⟩⟩
end
section
def RX0 : String := "TrimmedPeaks$Pile"
def TX0 : u_T := fun k => match k with
  | 0 => ("TrimmedPeaks$Pile", "most", "I", true)
  | 1 => ("TrimmedPeaks$Pile", "cells", "[I", true)
  | 2 => ("TrimmedPeaks$Pile", "held", "I", false)
  | _ => ("TrimmedPeaks$Pile", "next", "I", false)
def tyX0 : Nat → FieldType := fun k => match k with
  | 0 => .int
  | 1 => .array .int
  | 2 => .int
  | _ => .int
theorem nmX0 : ∀ a, a < 4 → ∀ b, b < 4 → a ≠ b → (TX0 a).2.1 ≠ (TX0 b).2.1 := by decide +kernel
theorem tyX0_ok : ∀ k, k < 4 → parseFieldDescriptor (TX0 k).2.2.1 = some (tyX0 k) := by decide +kernel
abbrev cX0_init : ByteArray := prog_2_method_1_code
def yX0_init : MethodName := ⟨RX0, "<init>", "(I)V"⟩
abbrev cX0_layBy : ByteArray := prog_2_method_2_code
def yX0_layBy : MethodName := ⟨RX0, "layBy", "(LTrimmedPeaks$State;)V"⟩
abbrev cX0_fetch : ByteArray := prog_2_method_3_code
def yX0_fetch : MethodName := ⟨RX0, "fetch", "(LTrimmedPeaks$State;)Z"⟩
def RX1 : String := "TrimmedPeaks$Range"
def TX1 : u_T := fun k => match k with
  | 0 => ("TrimmedPeaks$Range", "kinds", "[I", true)
  | 1 => ("TrimmedPeaks$Range", "heights", "[I", true)
  | 2 => ("TrimmedPeaks$Range", "winds", "[I", true)
  | 3 => ("TrimmedPeaks$Range", "peaks", "I", false)
  | _ => ("TrimmedPeaks$Range", "windsTold", "I", false)
def tyX1 : Nat → FieldType := fun k => match k with
  | 0 => .array .int
  | 1 => .array .int
  | 2 => .array .int
  | 3 => .int
  | _ => .int
theorem nmX1 : ∀ a, a < 5 → ∀ b, b < 5 → a ≠ b → (TX1 a).2.1 ≠ (TX1 b).2.1 := by decide +kernel
theorem tyX1_ok : ∀ k, k < 5 → parseFieldDescriptor (TX1 k).2.2.1 = some (tyX1 k) := by decide +kernel
abbrev cX1_init : ByteArray := prog_3_method_1_code
def yX1_init : MethodName := ⟨RX1, "<init>", "()V"⟩
abbrev cX1_clear : ByteArray := prog_3_method_2_code
def yX1_clear : MethodName := ⟨RX1, "clear", "()V"⟩
abbrev cX1_become : ByteArray := prog_3_method_3_code
def yX1_become : MethodName := ⟨RX1, "become", "(LTrimmedPeaks$Range;)V"⟩
abbrev cX1_tellPeak : ByteArray := prog_3_method_4_code
def yX1_tellPeak : MethodName := ⟨RX1, "tellPeak", "(II)Z"⟩
abbrev cX1_tellWind : ByteArray := prog_3_method_5_code
def yX1_tellWind : MethodName := ⟨RX1, "tellWind", "(I)Z"⟩
abbrev cX1_isPeak : ByteArray := prog_3_method_6_code
def yX1_isPeak : MethodName := ⟨RX1, "isPeak", "(I)Z"⟩
abbrev cX1_kindOf : ByteArray := prog_3_method_7_code
def yX1_kindOf : MethodName := ⟨RX1, "kindOf", "(I)I"⟩
abbrev cX1_heightOf : ByteArray := prog_3_method_8_code
def yX1_heightOf : MethodName := ⟨RX1, "heightOf", "(I)I"⟩
abbrev cX1_hasGoats : ByteArray := prog_3_method_9_code
def yX1_hasGoats : MethodName := ⟨RX1, "hasGoats", "(I)Z"⟩
abbrev cX1_windIn : ByteArray := prog_3_method_10_code
def yX1_windIn : MethodName := ⟨RX1, "windIn", "(I)I"⟩
abbrev cX1_forceAt : ByteArray := prog_3_method_11_code
def yX1_forceAt : MethodName := ⟨RX1, "forceAt", "(II)I"⟩
def RX2 : String := "TrimmedPeaks$Scribe"
def TX2 : u_T := fun k => match k with
  | 0 => ("TrimmedPeaks$Scribe", "letters", "[C", true)
  | 1 => ("TrimmedPeaks$Scribe", "numbers", "[I", true)
  | 2 => ("TrimmedPeaks$Scribe", "range", "LTrimmedPeaks$Range;", true)
  | 3 => ("TrimmedPeaks$Scribe", "state", "LTrimmedPeaks$State;", true)
  | 4 => ("TrimmedPeaks$Scribe", "length", "I", false)
  | _ => ("TrimmedPeaks$Scribe", "at", "I", false)
def tyX2 : Nat → FieldType := fun k => match k with
  | 0 => .array .char
  | 1 => .array .int
  | 2 => .object "TrimmedPeaks$Range"
  | 3 => .object "TrimmedPeaks$State"
  | 4 => .int
  | _ => .int
theorem nmX2 : ∀ a, a < 6 → ∀ b, b < 6 → a ≠ b → (TX2 a).2.1 ≠ (TX2 b).2.1 := by decide +kernel
theorem tyX2_ok : ∀ k, k < 6 → parseFieldDescriptor (TX2 k).2.2.1 = some (tyX2 k) := by decide +kernel
abbrev cX2_init : ByteArray := prog_4_method_1_code
def yX2_init : MethodName := ⟨RX2, "<init>", "()V"⟩
abbrev cX2_copyDown : ByteArray := prog_4_method_2_code
def yX2_copyDown : MethodName := ⟨RX2, "copyDown", "(Ljava/lang/String;)V"⟩
abbrev cX2_append : ByteArray := prog_4_method_3_code
def yX2_append : MethodName := ⟨RX2, "append", "(C)Z"⟩
abbrev cX2_readAll : ByteArray := prog_4_method_4_code
def yX2_readAll : MethodName := ⟨RX2, "readAll", "()I"⟩
abbrev cX2_readItem : ByteArray := prog_4_method_5_code
def yX2_readItem : MethodName := ⟨RX2, "readItem", "()Z"⟩
abbrev cX2_numbersBehind : ByteArray := prog_4_method_6_code
def yX2_numbersBehind : MethodName := ⟨RX2, "numbersBehind", "(C)I"⟩
abbrev cX2_readNumber : ByteArray := prog_4_method_7_code
def yX2_readNumber : MethodName := ⟨RX2, "readNumber", "()I"⟩
abbrev cX2_letterAt : ByteArray := prog_4_method_8_code
def yX2_letterAt : MethodName := ⟨RX2, "letterAt", "(I)C"⟩
abbrev cX2_heed : ByteArray := prog_4_method_9_code
def yX2_heed : MethodName := ⟨RX2, "heed", "(C)Z"⟩
abbrev cX2_tellStore : ByteArray := prog_4_method_10_code
def yX2_tellStore : MethodName := ⟨RX2, "tellStore", "(II)Z"⟩
abbrev cX2_tellOn : ByteArray := prog_4_method_11_code
def yX2_tellOn : MethodName := ⟨RX2, "tellOn", "(III)Z"⟩
def RX3 : String := "TrimmedPeaks$State"
def TX3 : u_T := fun k => match k with
  | _ => ("TrimmedPeaks$State", "cells", "[I", true)
def tyX3 : Nat → FieldType := fun k => match k with
  | _ => .array .int
theorem nmX3 : ∀ a, a < 1 → ∀ b, b < 1 → a ≠ b → (TX3 a).2.1 ≠ (TX3 b).2.1 := by decide +kernel
theorem tyX3_ok : ∀ k, k < 1 → parseFieldDescriptor (TX3 k).2.2.1 = some (tyX3 k) := by decide +kernel
abbrev cX3_init : ByteArray := prog_5_method_1_code
def yX3_init : MethodName := ⟨RX3, "<init>", "()V"⟩
abbrev cX3_clear : ByteArray := prog_5_method_2_code
def yX3_clear : MethodName := ⟨RX3, "clear", "()V"⟩
abbrev cX3_become : ByteArray := prog_5_method_3_code
def yX3_become : MethodName := ⟨RX3, "become", "(LTrimmedPeaks$State;)V"⟩
abbrev cX3_pinsOn : ByteArray := prog_5_method_4_code
def yX3_pinsOn : MethodName := ⟨RX3, "pinsOn", "(II)I"⟩
abbrev cX3_setPins : ByteArray := prog_5_method_5_code
def yX3_setPins : MethodName := ⟨RX3, "setPins", "(III)V"⟩
abbrev cX3_isOn : ByteArray := prog_5_method_6_code
def yX3_isOn : MethodName := ⟨RX3, "isOn", "(II)Z"⟩
abbrev cX3_looksOf : ByteArray := prog_5_method_7_code
def yX3_looksOf : MethodName := ⟨RX3, "looksOf", "(I)I"⟩
abbrev cX3_inStore : ByteArray := prog_5_method_8_code
def yX3_inStore : MethodName := ⟨RX3, "inStore", "(I)I"⟩
abbrev cX3_setStore : ByteArray := prog_5_method_9_code
def yX3_setStore : MethodName := ⟨RX3, "setStore", "(II)V"⟩
abbrev cX3_guideOf : ByteArray := prog_5_method_10_code
def yX3_guideOf : MethodName := ⟨RX3, "guideOf", "(I)I"⟩
abbrev cX3_makeGuides : ByteArray := prog_5_method_11_code
def yX3_makeGuides : MethodName := ⟨RX3, "makeGuides", "()V"⟩
abbrev cX3_yearNow : ByteArray := prog_5_method_12_code
def yX3_yearNow : MethodName := ⟨RX3, "yearNow", "()I"⟩
abbrev cX3_canPut : ByteArray := prog_5_method_13_code
def yX3_canPut : MethodName := ⟨RX3, "canPut", "(II)Z"⟩
abbrev cX3_putOn : ByteArray := prog_5_method_14_code
def yX3_putOn : MethodName := ⟨RX3, "putOn", "(III)V"⟩
abbrev cX3_takeOff : ByteArray := prog_5_method_15_code
def yX3_takeOff : MethodName := ⟨RX3, "takeOff", "(II)V"⟩
abbrev cX3_letYearGoBy : ByteArray := prog_5_method_16_code
def yX3_letYearGoBy : MethodName := ⟨RX3, "letYearGoBy", "(LTrimmedPeaks$Range;)V"⟩
abbrev cX3_trimmingsOn : ByteArray := prog_5_method_17_code
def yX3_trimmingsOn : MethodName := ⟨RX3, "trimmingsOn", "()I"⟩
abbrev cX3_sumOf : ByteArray := prog_5_method_18_code
def yX3_sumOf : MethodName := ⟨RX3, "sumOf", "(II)I"⟩
def RX4 : String := "TrimmedPeaks"
def TX4 : u_T := fun k => match k with
  | 0 => ("TrimmedPeaks", "scribe", "LTrimmedPeaks$Scribe;", true)
  | 1 => ("TrimmedPeaks", "range", "LTrimmedPeaks$Range;", true)
  | 2 => ("TrimmedPeaks", "now", "LTrimmedPeaks$State;", true)
  | 3 => ("TrimmedPeaks", "trial", "LTrimmedPeaks$State;", true)
  | 4 => ("TrimmedPeaks", "undoable", "LTrimmedPeaks$Pile;", true)
  | 5 => ("TrimmedPeaks", "kept", "LTrimmedPeaks$Pile;", true)
  | 6 => ("TrimmedPeaks", "faces", "[I", true)
  | 7 => ("TrimmedPeaks", "added", "[I", true)
  | 8 => ("TrimmedPeaks", "ways", "[I", true)
  | 9 => ("TrimmedPeaks", "gusts", "[I", true)
  | 10 => ("TrimmedPeaks", "saidOn", "I", false)
  | 11 => ("TrimmedPeaks", "saidOff", "I", false)
  | _ => ("TrimmedPeaks", "saidCount", "I", false)
def tyX4 : Nat → FieldType := fun k => match k with
  | 0 => .object "TrimmedPeaks$Scribe"
  | 1 => .object "TrimmedPeaks$Range"
  | 2 => .object "TrimmedPeaks$State"
  | 3 => .object "TrimmedPeaks$State"
  | 4 => .object "TrimmedPeaks$Pile"
  | 5 => .object "TrimmedPeaks$Pile"
  | 6 => .array .int
  | 7 => .array .int
  | 8 => .array .int
  | 9 => .array .int
  | 10 => .int
  | 11 => .int
  | _ => .int
theorem nmX4 : ∀ a, a < 13 → ∀ b, b < 13 → a ≠ b → (TX4 a).2.1 ≠ (TX4 b).2.1 := by decide +kernel
theorem tyX4_ok : ∀ k, k < 13 → parseFieldDescriptor (TX4 k).2.2.1 = some (tyX4 k) := by decide +kernel
abbrev cX4_init : ByteArray := prog_1_method_1_code
def yX4_init : MethodName := ⟨RX4, "<init>", "()V"⟩
abbrev cX4_write : ByteArray := prog_1_method_2_code
def yX4_write : MethodName := ⟨RX4, "write", "(I)I"⟩
abbrev cX4_wipe : ByteArray := prog_1_method_3_code
def yX4_wipe : MethodName := ⟨RX4, "wipe", "()I"⟩
abbrev cX4_fault : ByteArray := prog_1_method_4_code
def yX4_fault : MethodName := ⟨RX4, "fault", "()I"⟩
abbrev cX4_lay : ByteArray := prog_1_method_5_code
def yX4_lay : MethodName := ⟨RX4, "lay", "()I"⟩
abbrev cX4_peak : ByteArray := prog_1_method_6_code
def yX4_peak : MethodName := ⟨RX4, "peak", "(II)I"⟩
abbrev cX4_pins : ByteArray := prog_1_method_7_code
def yX4_pins : MethodName := ⟨RX4, "pins", "(II)I"⟩
abbrev cX4_store : ByteArray := prog_1_method_8_code
def yX4_store : MethodName := ⟨RX4, "store", "(I)I"⟩
abbrev cX4_wind : ByteArray := prog_1_method_9_code
def yX4_wind : MethodName := ⟨RX4, "wind", "(I)I"⟩
abbrev cX4_put : ByteArray := prog_1_method_10_code
def yX4_put : MethodName := ⟨RX4, "put", "(III)I"⟩
abbrev cX4_take : ByteArray := prog_1_method_11_code
def yX4_take : MethodName := ⟨RX4, "take", "(II)I"⟩
abbrev cX4_pin : ByteArray := prog_1_method_12_code
def yX4_pin : MethodName := ⟨RX4, "pin", "(III)I"⟩
abbrev cX4_pass : ByteArray := prog_1_method_13_code
def yX4_pass : MethodName := ⟨RX4, "pass", "(I)I"⟩
abbrev cX4_undo : ByteArray := prog_1_method_14_code
def yX4_undo : MethodName := ⟨RX4, "undo", "()I"⟩
abbrev cX4_alike : ByteArray := prog_1_method_15_code
def yX4_alike : MethodName := ⟨RX4, "alike", "(I)I"⟩
abbrev cX4_known : ByteArray := prog_1_method_16_code
def yX4_known : MethodName := ⟨RX4, "known", "(I)I"⟩
abbrev cX4_behind : ByteArray := prog_1_method_17_code
def yX4_behind : MethodName := ⟨RX4, "behind", "(II)I"⟩
abbrev cX4_goes : ByteArray := prog_1_method_18_code
def yX4_goes : MethodName := ⟨RX4, "goes", "(II)I"⟩
abbrev cX4_hold : ByteArray := prog_1_method_19_code
def yX4_hold : MethodName := ⟨RX4, "hold", "(I)I"⟩
abbrev cX4_tell : ByteArray := prog_1_method_20_code
def yX4_tell : MethodName := ⟨RX4, "tell", "(I)I"⟩
abbrev cX4_add : ByteArray := prog_1_method_21_code
def yX4_add : MethodName := ⟨RX4, "add", "(I)I"⟩
abbrev cX4_say : ByteArray := prog_1_method_22_code
def yX4_say : MethodName := ⟨RX4, "say", "(II)I"⟩
abbrev cX4_forget : ByteArray := prog_1_method_23_code
def yX4_forget : MethodName := ⟨RX4, "forget", "()I"⟩
abbrev cX4_which : ByteArray := prog_1_method_24_code
def yX4_which : MethodName := ⟨RX4, "which", "()I"⟩
abbrev cX4_ask : ByteArray := prog_1_method_25_code
def yX4_ask : MethodName := ⟨RX4, "ask", "(I)I"⟩
abbrev cX4_match : ByteArray := prog_1_method_26_code
def yX4_match : MethodName := ⟨RX4, "match", "(I)I"⟩
abbrev cX4_storms : ByteArray := prog_1_method_27_code
def yX4_storms : MethodName := ⟨RX4, "storms", "(IIIII)I"⟩
abbrev cX4_century : ByteArray := prog_1_method_28_code
def yX4_century : MethodName := ⟨RX4, "century", "(III)I"⟩
abbrev cX4_keep : ByteArray := prog_1_method_29_code
def yX4_keep : MethodName := ⟨RX4, "keep", "()I"⟩
abbrev cX4_back : ByteArray := prog_1_method_30_code
def yX4_back : MethodName := ⟨RX4, "back", "()I"⟩
abbrev cX4_count : ByteArray := prog_1_method_31_code
def yX4_count : MethodName := ⟨RX4, "count", "(I)I"⟩
abbrev cX4_isZeroOrOne : ByteArray := prog_1_method_32_code
def yX4_isZeroOrOne : MethodName := ⟨RX4, "isZeroOrOne", "(I)Z"⟩
abbrev cX4_isTrimming : ByteArray := prog_1_method_33_code
def yX4_isTrimming : MethodName := ⟨RX4, "isTrimming", "(I)Z"⟩
abbrev cX4_isPins : ByteArray := prog_1_method_34_code
def yX4_isPins : MethodName := ⟨RX4, "isPins", "(I)Z"⟩
abbrev cX4_isPlace : ByteArray := prog_1_method_35_code
def yX4_isPlace : MethodName := ⟨RX4, "isPlace", "(II)Z"⟩
abbrev cX4_layAsTold : ByteArray := prog_1_method_36_code
def yX4_layAsTold : MethodName := ⟨RX4, "layAsTold", "()Z"⟩
abbrev cX4_lightOf : ByteArray := prog_1_method_37_code
def yX4_lightOf : MethodName := ⟨RX4, "lightOf", "(I)I"⟩
abbrev cX4_shadeBy : ByteArray := prog_1_method_38_code
def yX4_shadeBy : MethodName := ⟨RX4, "shadeBy", "(II)I"⟩
abbrev cX4_letYearsGoBy : ByteArray := prog_1_method_39_code
def yX4_letYearsGoBy : MethodName := ⟨RX4, "letYearsGoBy", "(LTrimmedPeaks$State;I)V"⟩
abbrev cX4_weather : ByteArray := prog_1_method_40_code
def yX4_weather : MethodName := ⟨RX4, "weather", "([IIIZ)V"⟩
abbrev cX4_lookAt : ByteArray := prog_1_method_41_code
def yX4_lookAt : MethodName := ⟨RX4, "lookAt", "(LTrimmedPeaks$State;)V"⟩
abbrev cX4_pairsAlike : ByteArray := prog_1_method_42_code
def yX4_pairsAlike : MethodName := ⟨RX4, "pairsAlike", "(I)I"⟩
abbrev cX4_firstPairAlike : ByteArray := prog_1_method_43_code
def yX4_firstPairAlike : MethodName := ⟨RX4, "firstPairAlike", "()I"⟩
abbrev cX4_knownBy : ByteArray := prog_1_method_44_code
def yX4_knownBy : MethodName := ⟨RX4, "knownBy", "(I)I"⟩
abbrev cX4_peaksKnownAsThemselves : ByteArray := prog_1_method_45_code
def yX4_peaksKnownAsThemselves : MethodName := ⟨RX4, "peaksKnownAsThemselves", "()I"⟩
abbrev cX4_smallestTellingSet : ByteArray := prog_1_method_46_code
def yX4_smallestTellingSet : MethodName := ⟨RX4, "smallestTellingSet", "()I"⟩
abbrev cX4_pinsMoreAt : ByteArray := prog_1_method_47_code
def yX4_pinsMoreAt : MethodName := ⟨RX4, "pinsMoreAt", "(II)I"⟩
abbrev cX4_pinsToHold : ByteArray := prog_1_method_48_code
def yX4_pinsToHold : MethodName := ⟨RX4, "pinsToHold", "(III)I"⟩
abbrev cX4_searchAdded : ByteArray := prog_1_method_49_code
def yX4_searchAdded : MethodName := ⟨RX4, "searchAdded", "()I"⟩
abbrev cX4_isOneAddedEnough : ByteArray := prog_1_method_50_code
def yX4_isOneAddedEnough : MethodName := ⟨RX4, "isOneAddedEnough", "()Z"⟩
abbrev cX4_areTwoAddedEnough : ByteArray := prog_1_method_51_code
def yX4_areTwoAddedEnough : MethodName := ⟨RX4, "areTwoAddedEnough", "()Z"⟩
abbrev cX4_findSecondAdded : ByteArray := prog_1_method_52_code
def yX4_findSecondAdded : MethodName := ⟨RX4, "findSecondAdded", "(I)Z"⟩
abbrev cX4_canPutAt : ByteArray := prog_1_method_53_code
def yX4_canPutAt : MethodName := ⟨RX4, "canPutAt", "(I)Z"⟩
abbrev cX4_isApartWith : ByteArray := prog_1_method_54_code
def yX4_isApartWith : MethodName := ⟨RX4, "isApartWith", "(I)Z"⟩
abbrev cX4_turn : ByteArray := prog_1_method_55_code
def yX4_turn : MethodName := ⟨RX4, "turn", "(I)V"⟩
abbrev cX4_tenTimesPeakAndTrimming : ByteArray := prog_1_method_56_code
def yX4_tenTimesPeakAndTrimming : MethodName := ⟨RX4, "tenTimesPeakAndTrimming", "(I)I"⟩
abbrev cX4_bestToAsk : ByteArray := prog_1_method_57_code
def yX4_bestToAsk : MethodName := ⟨RX4, "bestToAsk", "(I)I"⟩
abbrev cX4_greaterPart : ByteArray := prog_1_method_58_code
def yX4_greaterPart : MethodName := ⟨RX4, "greaterPart", "(II)I"⟩
abbrev cX4_fitsGuideOf : ByteArray := prog_1_method_59_code
def yX4_fitsGuideOf : MethodName := ⟨RX4, "fitsGuideOf", "(II)Z"⟩
abbrev cX4_countWays : ByteArray := prog_1_method_60_code
def yX4_countWays : MethodName := ⟨RX4, "countWays", "()V"⟩
abbrev cX4_guideInFirstWay : ByteArray := prog_1_method_61_code
def yX4_guideInFirstWay : MethodName := ⟨RX4, "guideInFirstWay", "(I)I"⟩
abbrev cX4_lowestGuideFor : ByteArray := prog_1_method_62_code
def yX4_lowestGuideFor : MethodName := ⟨RX4, "lowestGuideFor", "(II)I"⟩
abbrev cX4_waysToStay : ByteArray := prog_1_method_63_code
def yX4_waysToStay : MethodName := ⟨RX4, "waysToStay", "(IIIII)I"⟩
abbrev cX4_blowGust : ByteArray := prog_1_method_64_code
def yX4_blowGust : MethodName := ⟨RX4, "blowGust", "(III)Z"⟩
abbrev cX4_inLowestTerms : ByteArray := prog_1_method_65_code
def yX4_inLowestTerms : MethodName := ⟨RX4, "inLowestTerms", "(III)I"⟩
abbrev cX4_drawOf : ByteArray := prog_1_method_66_code
def yX4_drawOf : MethodName := ⟨RX4, "drawOf", "(II)I"⟩
abbrev cX4_trimByDraw : ByteArray := prog_1_method_67_code
def yX4_trimByDraw : MethodName := ⟨RX4, "trimByDraw", "(LTrimmedPeaks$State;I)V"⟩
def RX5 : String := "TrimmedPeaksModel"
def TX5 : u_T := fun k => match k with
  | 0 => ("TrimmedPeaksModel", "many", "I", false)
  | 1 => ("TrimmedPeaksModel", "windMany", "I", false)
  | 2 => ("TrimmedPeaksModel", "kindOf", "[I", true)
  | 3 => ("TrimmedPeaksModel", "highs", "[I", true)
  | 4 => ("TrimmedPeaksModel", "winds", "[I", true)
  | 5 => ("TrimmedPeaksModel", "year", "I", false)
  | 6 => ("TrimmedPeaksModel", "pinned", "[I", true)
  | 7 => ("TrimmedPeaksModel", "stored", "[I", true)
  | 8 => ("TrimmedPeaksModel", "guides", "[I", true)
  | 9 => ("TrimmedPeaksModel", "saidMany", "I", false)
  | 10 => ("TrimmedPeaksModel", "saidOf", "[I", true)
  | 11 => ("TrimmedPeaksModel", "saidIs", "[I", true)
  | 12 => ("TrimmedPeaksModel", "text", "[I", true)
  | 13 => ("TrimmedPeaksModel", "size", "I", false)
  | 14 => ("TrimmedPeaksModel", "readAt", "I", false)
  | 15 => ("TrimmedPeaksModel", "readPeaks", "I", false)
  | 16 => ("TrimmedPeaksModel", "readWinds", "I", false)
  | 17 => ("TrimmedPeaksModel", "readKinds", "[I", true)
  | 18 => ("TrimmedPeaksModel", "readHighs", "[I", true)
  | 19 => ("TrimmedPeaksModel", "readPins", "[I", true)
  | 20 => ("TrimmedPeaksModel", "readStore", "[I", true)
  | 21 => ("TrimmedPeaksModel", "readWind", "[I", true)
  | 22 => ("TrimmedPeaksModel", "readNumber", "I", false)
  | 23 => ("TrimmedPeaksModel", "ahead", "[I", true)
  | 24 => ("TrimmedPeaksModel", "undoMany", "I", false)
  | 25 => ("TrimmedPeaksModel", "aside", "[I", true)
  | 26 => ("TrimmedPeaksModel", "added", "[I", true)
  | 27 => ("TrimmedPeaksModel", "ways", "[I", true)
  | 28 => ("TrimmedPeaksModel", "kept", "[I", true)
  | _ => ("TrimmedPeaksModel", "keptMany", "I", false)
def tyX5 : Nat → FieldType := fun k => match k with
  | 0 => .int
  | 1 => .int
  | 2 => .array .int
  | 3 => .array .int
  | 4 => .array .int
  | 5 => .int
  | 6 => .array .int
  | 7 => .array .int
  | 8 => .array .int
  | 9 => .int
  | 10 => .array .int
  | 11 => .array .int
  | 12 => .array .int
  | 13 => .int
  | 14 => .int
  | 15 => .int
  | 16 => .int
  | 17 => .array .int
  | 18 => .array .int
  | 19 => .array .int
  | 20 => .array .int
  | 21 => .array .int
  | 22 => .int
  | 23 => .array .int
  | 24 => .int
  | 25 => .array .int
  | 26 => .array .int
  | 27 => .array .int
  | 28 => .array .int
  | _ => .int
theorem nmX5 : ∀ a, a < 30 → ∀ b, b < 30 → a ≠ b → (TX5 a).2.1 ≠ (TX5 b).2.1 := by decide +kernel
theorem tyX5_ok : ∀ k, k < 30 → parseFieldDescriptor (TX5 k).2.2.1 = some (tyX5 k) := by decide +kernel
abbrev cX5_in : ByteArray := prog_7_method_1_code
def yX5_in : MethodName := ⟨RX5, "in", "(III)Z"⟩
abbrev cX5_has : ByteArray := prog_7_method_2_code
def yX5_has : MethodName := ⟨RX5, "has", "(II)Z"⟩
abbrev cX5_greater : ByteArray := prog_7_method_3_code
def yX5_greater : MethodName := ⟨RX5, "greater", "(II)I"⟩
abbrev cX5_bits : ByteArray := prog_7_method_4_code
def yX5_bits : MethodName := ⟨RX5, "bits", "(I)I"⟩
abbrev cX5_init : ByteArray := prog_7_method_5_code
def yX5_init : MethodName := ⟨RX5, "<init>", "()V"⟩
abbrev cX5_firstPeak : ByteArray := prog_7_method_6_code
def yX5_firstPeak : MethodName := ⟨RX5, "firstPeak", "(II)V"⟩
abbrev cX5_isPeak : ByteArray := prog_7_method_7_code
def yX5_isPeak : MethodName := ⟨RX5, "isPeak", "(I)Z"⟩
abbrev cX5_isTrimming : ByteArray := prog_7_method_8_code
def yX5_isTrimming : MethodName := ⟨RX5, "isTrimming", "(I)Z"⟩
abbrev cX5_looks : ByteArray := prog_7_method_9_code
def yX5_looks : MethodName := ⟨RX5, "looks", "(I)I"⟩
abbrev cX5_setGuides : ByteArray := prog_7_method_10_code
def yX5_setGuides : MethodName := ⟨RX5, "setGuides", "()V"⟩
abbrev cX5_write : ByteArray := prog_7_method_11_code
def yX5_write : MethodName := ⟨RX5, "write", "(I)I"⟩
abbrev cX5_wipe : ByteArray := prog_7_method_12_code
def yX5_wipe : MethodName := ⟨RX5, "wipe", "()I"⟩
abbrev cX5_here : ByteArray := prog_7_method_13_code
def yX5_here : MethodName := ⟨RX5, "here", "()I"⟩
abbrev cX5_isFigure : ByteArray := prog_7_method_14_code
def yX5_isFigure : MethodName := ⟨RX5, "isFigure", "()Z"⟩
abbrev cX5_number : ByteArray := prog_7_method_15_code
def yX5_number : MethodName := ⟨RX5, "number", "(III)Z"⟩
abbrev cX5_readsPeak : ByteArray := prog_7_method_16_code
def yX5_readsPeak : MethodName := ⟨RX5, "readsPeak", "()Z"⟩
abbrev cX5_readsStore : ByteArray := prog_7_method_17_code
def yX5_readsStore : MethodName := ⟨RX5, "readsStore", "()Z"⟩
abbrev cX5_readsOn : ByteArray := prog_7_method_18_code
def yX5_readsOn : MethodName := ⟨RX5, "readsOn", "()Z"⟩
abbrev cX5_readsWind : ByteArray := prog_7_method_19_code
def yX5_readsWind : MethodName := ⟨RX5, "readsWind", "()Z"⟩
abbrev cX5_readsItem : ByteArray := prog_7_method_20_code
def yX5_readsItem : MethodName := ⟨RX5, "readsItem", "()Z"⟩
abbrev cX5_fault : ByteArray := prog_7_method_21_code
def yX5_fault : MethodName := ⟨RX5, "fault", "()I"⟩
abbrev cX5_lay : ByteArray := prog_7_method_22_code
def yX5_lay : MethodName := ⟨RX5, "lay", "()I"⟩
abbrev cX5_windOf : ByteArray := prog_7_method_23_code
def yX5_windOf : MethodName := ⟨RX5, "windOf", "(I)I"⟩
abbrev cX5_forceBy : ByteArray := prog_7_method_24_code
def yX5_forceBy : MethodName := ⟨RX5, "forceBy", "(II)I"⟩
abbrev cX5_light : ByteArray := prog_7_method_25_code
def yX5_light : MethodName := ⟨RX5, "light", "(I)I"⟩
abbrev cX5_passesBy : ByteArray := prog_7_method_26_code
def yX5_passesBy : MethodName := ⟨RX5, "passesBy", "(I)V"⟩
abbrev cX5_goesOn : ByteArray := prog_7_method_27_code
def yX5_goesOn : MethodName := ⟨RX5, "goesOn", "(I)V"⟩
abbrev cX5_peak : ByteArray := prog_7_method_28_code
def yX5_peak : MethodName := ⟨RX5, "peak", "(II)I"⟩
abbrev cX5_pins : ByteArray := prog_7_method_29_code
def yX5_pins : MethodName := ⟨RX5, "pins", "(II)I"⟩
abbrev cX5_store : ByteArray := prog_7_method_30_code
def yX5_store : MethodName := ⟨RX5, "store", "(I)I"⟩
abbrev cX5_wind : ByteArray := prog_7_method_31_code
def yX5_wind : MethodName := ⟨RX5, "wind", "(I)I"⟩
abbrev cX5_lays : ByteArray := prog_7_method_32_code
def yX5_lays : MethodName := ⟨RX5, "lays", "([II)V"⟩
abbrev cX5_takes : ByteArray := prog_7_method_33_code
def yX5_takes : MethodName := ⟨RX5, "takes", "([II)V"⟩
abbrev cX5_notes : ByteArray := prog_7_method_34_code
def yX5_notes : MethodName := ⟨RX5, "notes", "()V"⟩
abbrev cX5_mayPut : ByteArray := prog_7_method_35_code
def yX5_mayPut : MethodName := ⟨RX5, "mayPut", "(II)Z"⟩
abbrev cX5_puts : ByteArray := prog_7_method_36_code
def yX5_puts : MethodName := ⟨RX5, "puts", "(III)V"⟩
abbrev cX5_takesOff : ByteArray := prog_7_method_37_code
def yX5_takesOff : MethodName := ⟨RX5, "takesOff", "(II)V"⟩
abbrev cX5_put : ByteArray := prog_7_method_38_code
def yX5_put : MethodName := ⟨RX5, "put", "(III)I"⟩
abbrev cX5_take : ByteArray := prog_7_method_39_code
def yX5_take : MethodName := ⟨RX5, "take", "(II)I"⟩
abbrev cX5_pin : ByteArray := prog_7_method_40_code
def yX5_pin : MethodName := ⟨RX5, "pin", "(III)I"⟩
abbrev cX5_pass : ByteArray := prog_7_method_41_code
def yX5_pass : MethodName := ⟨RX5, "pass", "(I)I"⟩
abbrev cX5_undo : ByteArray := prog_7_method_42_code
def yX5_undo : MethodName := ⟨RX5, "undo", "()I"⟩
abbrev cX5_begin : ByteArray := prog_7_method_43_code
def yX5_begin : MethodName := ⟨RX5, "begin", "()V"⟩
abbrev cX5_putBack : ByteArray := prog_7_method_44_code
def yX5_putBack : MethodName := ⟨RX5, "putBack", "()V"⟩
abbrev cX5_pairsAlike : ByteArray := prog_7_method_45_code
def yX5_pairsAlike : MethodName := ⟨RX5, "pairsAlike", "()I"⟩
abbrev cX5_alike : ByteArray := prog_7_method_46_code
def yX5_alike : MethodName := ⟨RX5, "alike", "(I)I"⟩
abbrev cX5_knownBy : ByteArray := prog_7_method_47_code
def yX5_knownBy : MethodName := ⟨RX5, "knownBy", "(I)I"⟩
abbrev cX5_known : ByteArray := prog_7_method_48_code
def yX5_known : MethodName := ⟨RX5, "known", "(I)I"⟩
abbrev cX5_behind : ByteArray := prog_7_method_49_code
def yX5_behind : MethodName := ⟨RX5, "behind", "(II)I"⟩
abbrev cX5_goes : ByteArray := prog_7_method_50_code
def yX5_goes : MethodName := ⟨RX5, "goes", "(II)I"⟩
abbrev cX5_needed : ByteArray := prog_7_method_51_code
def yX5_needed : MethodName := ⟨RX5, "needed", "(III)I"⟩
abbrev cX5_hold : ByteArray := prog_7_method_52_code
def yX5_hold : MethodName := ⟨RX5, "hold", "(I)I"⟩
abbrev cX5_tells : ByteArray := prog_7_method_53_code
def yX5_tells : MethodName := ⟨RX5, "tells", "(I)Z"⟩
abbrev cX5_tell : ByteArray := prog_7_method_54_code
def yX5_tell : MethodName := ⟨RX5, "tell", "(I)I"⟩
abbrev cX5_adds : ByteArray := prog_7_method_55_code
def yX5_adds : MethodName := ⟨RX5, "adds", "()I"⟩
abbrev cX5_add : ByteArray := prog_7_method_56_code
def yX5_add : MethodName := ⟨RX5, "add", "(I)I"⟩
abbrev cX5_say : ByteArray := prog_7_method_57_code
def yX5_say : MethodName := ⟨RX5, "say", "(II)I"⟩
abbrev cX5_forget : ByteArray := prog_7_method_58_code
def yX5_forget : MethodName := ⟨RX5, "forget", "()I"⟩
abbrev cX5_those : ByteArray := prog_7_method_59_code
def yX5_those : MethodName := ⟨RX5, "those", "()I"⟩
abbrev cX5_which : ByteArray := prog_7_method_60_code
def yX5_which : MethodName := ⟨RX5, "which", "()I"⟩
abbrev cX5_ask : ByteArray := prog_7_method_61_code
def yX5_ask : MethodName := ⟨RX5, "ask", "(I)I"⟩
abbrev cX5_mayHave : ByteArray := prog_7_method_62_code
def yX5_mayHave : MethodName := ⟨RX5, "mayHave", "(II)Z"⟩
abbrev cX5_setWays : ByteArray := prog_7_method_63_code
def yX5_setWays : MethodName := ⟨RX5, "setWays", "()V"⟩
abbrev cX5_match : ByteArray := prog_7_method_64_code
def yX5_match : MethodName := ⟨RX5, "match", "(I)I"⟩
abbrev cX5_common : ByteArray := prog_7_method_65_code
def yX5_common : MethodName := ⟨RX5, "common", "(JJ)J"⟩
abbrev cX5_storms : ByteArray := prog_7_method_66_code
def yX5_storms : MethodName := ⟨RX5, "storms", "(IIIII)I"⟩
abbrev cX5_onMany : ByteArray := prog_7_method_67_code
def yX5_onMany : MethodName := ⟨RX5, "onMany", "()I"⟩
abbrev cX5_century : ByteArray := prog_7_method_68_code
def yX5_century : MethodName := ⟨RX5, "century", "(III)I"⟩
abbrev cX5_keep : ByteArray := prog_7_method_69_code
def yX5_keep : MethodName := ⟨RX5, "keep", "()I"⟩
abbrev cX5_back : ByteArray := prog_7_method_70_code
def yX5_back : MethodName := ⟨RX5, "back", "()I"⟩
abbrev cX5_storedAll : ByteArray := prog_7_method_71_code
def yX5_storedAll : MethodName := ⟨RX5, "storedAll", "()I"⟩
abbrev cX5_pinsAll : ByteArray := prog_7_method_72_code
def yX5_pinsAll : MethodName := ⟨RX5, "pinsAll", "()I"⟩
abbrev cX5_ownKnown : ByteArray := prog_7_method_73_code
def yX5_ownKnown : MethodName := ⟨RX5, "ownKnown", "()I"⟩
abbrev cX5_count : ByteArray := prog_7_method_74_code
def yX5_count : MethodName := ⟨RX5, "count", "(I)I"⟩
def RJ6 : String := "java/lang/Integer"
def TJ6 : u_T := fun k => match k with
  | _ => ("", "", "", false)
def tyJ6 : Nat → FieldType := fun k => match k with
  | _ => .int
theorem nmJ6 : ∀ a, a < 0 → ∀ b, b < 0 → a ≠ b → (TJ6 a).2.1 ≠ (TJ6 b).2.1 := by decide +kernel
theorem tyJ6_ok : ∀ k, k < 0 → parseFieldDescriptor (TJ6 k).2.2.1 = some (tyJ6 k) := by decide +kernel
abbrev cJ6_bitCount_0f7a4 : ByteArray := prog_8_method_49_code
def yJ6_bitCount_0f7a4 : MethodName := ⟨RJ6, "bitCount", "(I)I"⟩
def RJ9 : String := "java/lang/Math"
def TJ9 : u_T := fun k => match k with
  | _ => ("", "", "", false)
def tyJ9 : Nat → FieldType := fun k => match k with
  | _ => .int
theorem nmJ9 : ∀ a, a < 0 → ∀ b, b < 0 → a ≠ b → (TJ9 a).2.1 ≠ (TJ9 b).2.1 := by decide +kernel
theorem tyJ9_ok : ∀ k, k < 0 → parseFieldDescriptor (TJ9 k).2.2.1 = some (tyJ9 k) := by decide +kernel
abbrev cJ9_max_7cf53 : ByteArray := prog_9_method_65_code
def yJ9_max_7cf53 : MethodName := ⟨RJ9, "max", "(II)I"⟩
abbrev cJ9_min_7cf53 : ByteArray := prog_9_method_69_code
def yJ9_min_7cf53 : MethodName := ⟨RJ9, "min", "(II)I"⟩
def RJ0 : String := "java/lang/String"
def TJ0 : u_T := fun k => match k with
  | _ => ("", "", "", false)
def tyJ0 : Nat → FieldType := fun k => match k with
  | _ => .int
theorem nmJ0 : ∀ a, a < 0 → ∀ b, b < 0 → a ≠ b → (TJ0 a).2.1 ≠ (TJ0 b).2.1 := by decide +kernel
theorem tyJ0_ok : ∀ k, k < 0 → parseFieldDescriptor (TJ0 k).2.2.1 = some (tyJ0 k) := by decide +kernel
abbrev cJ0_length_8abf5 : ByteArray := prog_10_method_54_code
def yJ0_length_8abf5 : MethodName := ⟨RJ0, "length", "()I"⟩
abbrev cJ0_charAt_5068e : ByteArray := prog_10_method_56_code
def yJ0_charAt_5068e : MethodName := ⟨RJ0, "charAt", "(I)C"⟩
abbrev cJ0_coder_7d493 : ByteArray := prog_10_method_152_code
def yJ0_coder_7d493 : MethodName := ⟨RJ0, "coder", "()B"⟩
abbrev cJ0_isLatin1_aae02 : ByteArray := prog_10_method_154_code
def yJ0_isLatin1_aae02 : MethodName := ⟨RJ0, "isLatin1", "()Z"⟩
abbrev cJ0_checkIndex_df160 : ByteArray := prog_10_method_155_code
def yJ0_checkIndex_df160 : MethodName := ⟨RJ0, "checkIndex", "(II)V"⟩
def RJ1 : String := "java/lang/StringLatin1"
def TJ1 : u_T := fun k => match k with
  | _ => ("", "", "", false)
def tyJ1 : Nat → FieldType := fun k => match k with
  | _ => .int
theorem nmJ1 : ∀ a, a < 0 → ∀ b, b < 0 → a ≠ b → (TJ1 a).2.1 ≠ (TJ1 b).2.1 := by decide +kernel
theorem tyJ1_ok : ∀ k, k < 0 → parseFieldDescriptor (TJ1 k).2.2.1 = some (tyJ1 k) := by decide +kernel
abbrev cJ1_charAt_3b067 : ByteArray := prog_11_method_2_code
def yJ1_charAt_3b067 : MethodName := ⟨RJ1, "charAt", "([BI)C"⟩
def RJ2 : String := "java/lang/StringUTF16"
def TJ2 : u_T := fun k => match k with
  | _ => ("", "", "", false)
def tyJ2 : Nat → FieldType := fun k => match k with
  | _ => .int
theorem nmJ2 : ∀ a, a < 0 → ∀ b, b < 0 → a ≠ b → (TJ2 a).2.1 ≠ (TJ2 b).2.1 := by decide +kernel
theorem tyJ2_ok : ∀ k, k < 0 → parseFieldDescriptor (TJ2 k).2.2.1 = some (tyJ2 k) := by decide +kernel
abbrev cJ2_getChar_3b067 : ByteArray := prog_12_method_5_code
def yJ2_getChar_3b067 : MethodName := ⟨RJ2, "getChar", "([BI)C"⟩
abbrev cJ2_length_9d52b : ByteArray := prog_12_method_6_code
def yJ2_length_9d52b : MethodName := ⟨RJ2, "length", "([B)I"⟩
abbrev cJ2_charAt_3b067 : ByteArray := prog_12_method_83_code
def yJ2_charAt_3b067 : MethodName := ⟨RJ2, "charAt", "([BI)C"⟩
abbrev cJ2_checkIndex_2214a : ByteArray := prog_12_method_91_code
def yJ2_checkIndex_2214a : MethodName := ⟨RJ2, "checkIndex", "(I[B)V"⟩
def RJ10 : String := "java/lang/System"
def TJ10 : u_T := fun k => match k with
  | _ => ("", "", "", false)
def tyJ10 : Nat → FieldType := fun k => match k with
  | _ => .int
theorem nmJ10 : ∀ a, a < 0 → ∀ b, b < 0 → a ≠ b → (TJ10 a).2.1 ≠ (TJ10 b).2.1 := by decide +kernel
theorem tyJ10_ok : ∀ k, k < 0 → parseFieldDescriptor (TJ10 k).2.2.1 = some (tyJ10 k) := by decide +kernel
def RJ7 : String := "java/util/Arrays"
def TJ7 : u_T := fun k => match k with
  | _ => ("", "", "", false)
def tyJ7 : Nat → FieldType := fun k => match k with
  | _ => .int
theorem nmJ7 : ∀ a, a < 0 → ∀ b, b < 0 → a ≠ b → (TJ7 a).2.1 ≠ (TJ7 b).2.1 := by decide +kernel
theorem tyJ7_ok : ∀ k, k < 0 → parseFieldDescriptor (TJ7 k).2.2.1 = some (tyJ7 k) := by decide +kernel
abbrev cJ7_rangeCheck_23922 : ByteArray := prog_14_method_30_code
def yJ7_rangeCheck_23922 : MethodName := ⟨RJ7, "rangeCheck", "(III)V"⟩
abbrev cJ7_fill_53178 : ByteArray := prog_14_method_103_code
def yJ7_fill_53178 : MethodName := ⟨RJ7, "fill", "([II)V"⟩
abbrev cJ7_fill_fda19 : ByteArray := prog_14_method_104_code
def yJ7_fill_fda19 : MethodName := ⟨RJ7, "fill", "([IIII)V"⟩
def RJ3 : String := "jdk/internal/util/Preconditions"
def TJ3 : u_T := fun k => match k with
  | _ => ("", "", "", false)
def tyJ3 : Nat → FieldType := fun k => match k with
  | _ => .int
theorem nmJ3 : ∀ a, a < 0 → ∀ b, b < 0 → a ≠ b → (TJ3 a).2.1 ≠ (TJ3 b).2.1 := by decide +kernel
theorem tyJ3_ok : ∀ k, k < 0 → parseFieldDescriptor (TJ3 k).2.2.1 = some (tyJ3 k) := by decide +kernel
abbrev cJ3_checkIndex_8e157 : ByteArray := prog_15_method_11_code
def yJ3_checkIndex_8e157 : MethodName := ⟨RJ3, "checkIndex", "(IILjava/util/function/BiFunction;)I"⟩
def RL : String := "TrimmedPeaksLaw"
abbrev cL_law : ByteArray := code
def yL_law : MethodName := ⟨RL, "law", "([I)Z"⟩
abbrev vwCl : List vw_C := [(RX0, TX0, 4), (RX1, TX1, 5), (RX2, TX2, 6), (RX3, TX3, 1), (RX4, TX4, 13), (RX5, TX5, 30)]
end
section
theorem dX0_init_0 : decode cX0_init 0 = .ok (.aload_n 0, 1) := by decide +kernel
theorem dX0_init_1 : decode cX0_init 1 = .ok (.invokespecial 3, 3) := by decide +kernel
theorem dX0_init_4 : decode cX0_init 4 = .ok (.aload_n 0, 1) := by decide +kernel
theorem dX0_init_5 : decode cX0_init 5 = .ok (.iconst 1, 1) := by decide +kernel
theorem dX0_init_6 : decode cX0_init 6 = .ok (.iload_n 1, 1) := by decide +kernel
theorem dX0_init_7 : decode cX0_init 7 = .ok (.invokestatic 9, 3) := by decide +kernel
theorem dX0_init_10 : decode cX0_init 10 = .ok (.putfield 15, 3) := by decide +kernel
theorem dX0_init_13 : decode cX0_init 13 = .ok (.aload_n 0, 1) := by decide +kernel
theorem dX0_init_14 : decode cX0_init 14 = .ok (.aload_n 0, 1) := by decide +kernel
theorem dX0_init_15 : decode cX0_init 15 = .ok (.getfield 15, 3) := by decide +kernel
theorem dX0_init_18 : decode cX0_init 18 = .ok (.bipush 42, 2) := by decide +kernel
theorem dX0_init_20 : decode cX0_init 20 = .ok (.imul, 1) := by decide +kernel
theorem dX0_init_21 : decode cX0_init 21 = .ok (.newarray .int, 2) := by decide +kernel
theorem dX0_init_23 : decode cX0_init 23 = .ok (.putfield 21, 3) := by decide +kernel
theorem dX0_init_26 : decode cX0_init 26 = .ok (.return_, 1) := by decide +kernel
theorem dX0_layBy_0 : decode cX0_layBy 0 = .ok (.aload_n 1, 1) := by decide +kernel
theorem dX0_layBy_1 : decode cX0_layBy 1 = .ok (.getfield 25, 3) := by decide +kernel
theorem dX0_layBy_4 : decode cX0_layBy 4 = .ok (.iconst 0, 1) := by decide +kernel
theorem dX0_layBy_5 : decode cX0_layBy 5 = .ok (.aload_n 0, 1) := by decide +kernel
theorem dX0_layBy_6 : decode cX0_layBy 6 = .ok (.getfield 21, 3) := by decide +kernel
theorem dX0_layBy_9 : decode cX0_layBy 9 = .ok (.aload_n 0, 1) := by decide +kernel
theorem dX0_layBy_10 : decode cX0_layBy 10 = .ok (.getfield 28, 3) := by decide +kernel
theorem dX0_layBy_13 : decode cX0_layBy 13 = .ok (.bipush 42, 2) := by decide +kernel
theorem dX0_layBy_15 : decode cX0_layBy 15 = .ok (.imul, 1) := by decide +kernel
theorem dX0_layBy_16 : decode cX0_layBy 16 = .ok (.bipush 42, 2) := by decide +kernel
theorem dX0_layBy_18 : decode cX0_layBy 18 = .ok (.invokestatic 31, 3) := by decide +kernel
theorem dX0_layBy_21 : decode cX0_layBy 21 = .ok (.aload_n 0, 1) := by decide +kernel
theorem dX0_layBy_22 : decode cX0_layBy 22 = .ok (.aload_n 0, 1) := by decide +kernel
theorem dX0_layBy_23 : decode cX0_layBy 23 = .ok (.getfield 28, 3) := by decide +kernel
theorem dX0_layBy_26 : decode cX0_layBy 26 = .ok (.iconst 1, 1) := by decide +kernel
theorem dX0_layBy_27 : decode cX0_layBy 27 = .ok (.iadd, 1) := by decide +kernel
theorem dX0_layBy_28 : decode cX0_layBy 28 = .ok (.aload_n 0, 1) := by decide +kernel
theorem dX0_layBy_29 : decode cX0_layBy 29 = .ok (.getfield 15, 3) := by decide +kernel
theorem dX0_layBy_32 : decode cX0_layBy 32 = .ok (.if_icmp .ge 12, 3) := by decide +kernel
theorem dX0_layBy_35 : decode cX0_layBy 35 = .ok (.aload_n 0, 1) := by decide +kernel
theorem dX0_layBy_36 : decode cX0_layBy 36 = .ok (.getfield 28, 3) := by decide +kernel
theorem dX0_layBy_39 : decode cX0_layBy 39 = .ok (.iconst 1, 1) := by decide +kernel
theorem dX0_layBy_40 : decode cX0_layBy 40 = .ok (.iadd, 1) := by decide +kernel
theorem dX0_layBy_41 : decode cX0_layBy 41 = .ok (.goto 4, 3) := by decide +kernel
theorem dX0_layBy_44 : decode cX0_layBy 44 = .ok (.iconst 0, 1) := by decide +kernel
theorem dX0_layBy_45 : decode cX0_layBy 45 = .ok (.putfield 28, 3) := by decide +kernel
theorem dX0_layBy_48 : decode cX0_layBy 48 = .ok (.aload_n 0, 1) := by decide +kernel
theorem dX0_layBy_49 : decode cX0_layBy 49 = .ok (.aload_n 0, 1) := by decide +kernel
theorem dX0_layBy_50 : decode cX0_layBy 50 = .ok (.getfield 37, 3) := by decide +kernel
theorem dX0_layBy_53 : decode cX0_layBy 53 = .ok (.iconst 1, 1) := by decide +kernel
theorem dX0_layBy_54 : decode cX0_layBy 54 = .ok (.iadd, 1) := by decide +kernel
theorem dX0_layBy_55 : decode cX0_layBy 55 = .ok (.aload_n 0, 1) := by decide +kernel
theorem dX0_layBy_56 : decode cX0_layBy 56 = .ok (.getfield 15, 3) := by decide +kernel
theorem dX0_layBy_59 : decode cX0_layBy 59 = .ok (.invokestatic 40, 3) := by decide +kernel
theorem dX0_layBy_62 : decode cX0_layBy 62 = .ok (.putfield 37, 3) := by decide +kernel
theorem dX0_layBy_65 : decode cX0_layBy 65 = .ok (.return_, 1) := by decide +kernel
theorem dX0_fetch_0 : decode cX0_fetch 0 = .ok (.aload_n 0, 1) := by decide +kernel
theorem dX0_fetch_1 : decode cX0_fetch 1 = .ok (.getfield 37, 3) := by decide +kernel
theorem dX0_fetch_4 : decode cX0_fetch 4 = .ok (.iconst 1, 1) := by decide +kernel
theorem dX0_fetch_5 : decode cX0_fetch 5 = .ok (.if_icmp .ge 5, 3) := by decide +kernel
theorem dX0_fetch_8 : decode cX0_fetch 8 = .ok (.iconst 0, 1) := by decide +kernel
theorem dX0_fetch_9 : decode cX0_fetch 9 = .ok (.ireturn, 1) := by decide +kernel
theorem dX0_fetch_10 : decode cX0_fetch 10 = .ok (.aload_n 0, 1) := by decide +kernel
theorem dX0_fetch_11 : decode cX0_fetch 11 = .ok (.aload_n 0, 1) := by decide +kernel
theorem dX0_fetch_12 : decode cX0_fetch 12 = .ok (.getfield 28, 3) := by decide +kernel
theorem dX0_fetch_15 : decode cX0_fetch 15 = .ok (.ifCond .le 12, 3) := by decide +kernel
theorem dX0_fetch_18 : decode cX0_fetch 18 = .ok (.aload_n 0, 1) := by decide +kernel
theorem dX0_fetch_19 : decode cX0_fetch 19 = .ok (.getfield 28, 3) := by decide +kernel
theorem dX0_fetch_22 : decode cX0_fetch 22 = .ok (.iconst 1, 1) := by decide +kernel
theorem dX0_fetch_23 : decode cX0_fetch 23 = .ok (.isub, 1) := by decide +kernel
theorem dX0_fetch_24 : decode cX0_fetch 24 = .ok (.goto 9, 3) := by decide +kernel
theorem dX0_fetch_27 : decode cX0_fetch 27 = .ok (.aload_n 0, 1) := by decide +kernel
theorem dX0_fetch_28 : decode cX0_fetch 28 = .ok (.getfield 15, 3) := by decide +kernel
theorem dX0_fetch_31 : decode cX0_fetch 31 = .ok (.iconst 1, 1) := by decide +kernel
theorem dX0_fetch_32 : decode cX0_fetch 32 = .ok (.isub, 1) := by decide +kernel
theorem dX0_fetch_33 : decode cX0_fetch 33 = .ok (.putfield 28, 3) := by decide +kernel
theorem dX0_fetch_36 : decode cX0_fetch 36 = .ok (.aload_n 0, 1) := by decide +kernel
theorem dX0_fetch_37 : decode cX0_fetch 37 = .ok (.dup, 1) := by decide +kernel
theorem dX0_fetch_38 : decode cX0_fetch 38 = .ok (.getfield 37, 3) := by decide +kernel
theorem dX0_fetch_41 : decode cX0_fetch 41 = .ok (.iconst 1, 1) := by decide +kernel
theorem dX0_fetch_42 : decode cX0_fetch 42 = .ok (.isub, 1) := by decide +kernel
theorem dX0_fetch_43 : decode cX0_fetch 43 = .ok (.putfield 37, 3) := by decide +kernel
theorem dX0_fetch_46 : decode cX0_fetch 46 = .ok (.aload_n 0, 1) := by decide +kernel
theorem dX0_fetch_47 : decode cX0_fetch 47 = .ok (.getfield 21, 3) := by decide +kernel
theorem dX0_fetch_50 : decode cX0_fetch 50 = .ok (.aload_n 0, 1) := by decide +kernel
theorem dX0_fetch_51 : decode cX0_fetch 51 = .ok (.getfield 28, 3) := by decide +kernel
theorem dX0_fetch_54 : decode cX0_fetch 54 = .ok (.bipush 42, 2) := by decide +kernel
theorem dX0_fetch_56 : decode cX0_fetch 56 = .ok (.imul, 1) := by decide +kernel
theorem dX0_fetch_57 : decode cX0_fetch 57 = .ok (.aload_n 1, 1) := by decide +kernel
theorem dX0_fetch_58 : decode cX0_fetch 58 = .ok (.getfield 25, 3) := by decide +kernel
theorem dX0_fetch_61 : decode cX0_fetch 61 = .ok (.iconst 0, 1) := by decide +kernel
theorem dX0_fetch_62 : decode cX0_fetch 62 = .ok (.bipush 42, 2) := by decide +kernel
theorem dX0_fetch_64 : decode cX0_fetch 64 = .ok (.invokestatic 31, 3) := by decide +kernel
theorem dX0_fetch_67 : decode cX0_fetch 67 = .ok (.iconst 1, 1) := by decide +kernel
theorem dX0_fetch_68 : decode cX0_fetch 68 = .ok (.ireturn, 1) := by decide +kernel
theorem dX1_init_0 : decode cX1_init 0 = .ok (.aload_n 0, 1) := by decide +kernel
theorem dX1_init_1 : decode cX1_init 1 = .ok (.invokespecial 3, 3) := by decide +kernel
theorem dX1_init_4 : decode cX1_init 4 = .ok (.aload_n 0, 1) := by decide +kernel
theorem dX1_init_5 : decode cX1_init 5 = .ok (.bipush 6, 2) := by decide +kernel
theorem dX1_init_7 : decode cX1_init 7 = .ok (.newarray .int, 2) := by decide +kernel
theorem dX1_init_9 : decode cX1_init 9 = .ok (.putfield 9, 3) := by decide +kernel
theorem dX1_init_12 : decode cX1_init 12 = .ok (.aload_n 0, 1) := by decide +kernel
theorem dX1_init_13 : decode cX1_init 13 = .ok (.bipush 6, 2) := by decide +kernel
theorem dX1_init_15 : decode cX1_init 15 = .ok (.newarray .int, 2) := by decide +kernel
theorem dX1_init_17 : decode cX1_init 17 = .ok (.putfield 15, 3) := by decide +kernel
theorem dX1_init_20 : decode cX1_init 20 = .ok (.aload_n 0, 1) := by decide +kernel
theorem dX1_init_21 : decode cX1_init 21 = .ok (.bipush 12, 2) := by decide +kernel
theorem dX1_init_23 : decode cX1_init 23 = .ok (.newarray .int, 2) := by decide +kernel
theorem dX1_init_25 : decode cX1_init 25 = .ok (.putfield 18, 3) := by decide +kernel
theorem dX1_init_28 : decode cX1_init 28 = .ok (.return_, 1) := by decide +kernel
theorem dX1_clear_0 : decode cX1_clear 0 = .ok (.aload_n 0, 1) := by decide +kernel
theorem dX1_clear_1 : decode cX1_clear 1 = .ok (.iconst 0, 1) := by decide +kernel
theorem dX1_clear_2 : decode cX1_clear 2 = .ok (.putfield 21, 3) := by decide +kernel
theorem dX1_clear_5 : decode cX1_clear 5 = .ok (.aload_n 0, 1) := by decide +kernel
theorem dX1_clear_6 : decode cX1_clear 6 = .ok (.iconst 0, 1) := by decide +kernel
theorem dX1_clear_7 : decode cX1_clear 7 = .ok (.putfield 25, 3) := by decide +kernel
theorem dX1_clear_10 : decode cX1_clear 10 = .ok (.return_, 1) := by decide +kernel
theorem dX1_become_0 : decode cX1_become 0 = .ok (.aload_n 1, 1) := by decide +kernel
theorem dX1_become_1 : decode cX1_become 1 = .ok (.getfield 9, 3) := by decide +kernel
theorem dX1_become_4 : decode cX1_become 4 = .ok (.iconst 0, 1) := by decide +kernel
theorem dX1_become_5 : decode cX1_become 5 = .ok (.aload_n 0, 1) := by decide +kernel
theorem dX1_become_6 : decode cX1_become 6 = .ok (.getfield 9, 3) := by decide +kernel
theorem dX1_become_9 : decode cX1_become 9 = .ok (.iconst 0, 1) := by decide +kernel
theorem dX1_become_10 : decode cX1_become 10 = .ok (.bipush 6, 2) := by decide +kernel
theorem dX1_become_12 : decode cX1_become 12 = .ok (.invokestatic 28, 3) := by decide +kernel
theorem dX1_become_15 : decode cX1_become 15 = .ok (.aload_n 1, 1) := by decide +kernel
theorem dX1_become_16 : decode cX1_become 16 = .ok (.getfield 15, 3) := by decide +kernel
theorem dX1_become_19 : decode cX1_become 19 = .ok (.iconst 0, 1) := by decide +kernel
theorem dX1_become_20 : decode cX1_become 20 = .ok (.aload_n 0, 1) := by decide +kernel
theorem dX1_become_21 : decode cX1_become 21 = .ok (.getfield 15, 3) := by decide +kernel
theorem dX1_become_24 : decode cX1_become 24 = .ok (.iconst 0, 1) := by decide +kernel
theorem dX1_become_25 : decode cX1_become 25 = .ok (.bipush 6, 2) := by decide +kernel
theorem dX1_become_27 : decode cX1_become 27 = .ok (.invokestatic 28, 3) := by decide +kernel
theorem dX1_become_30 : decode cX1_become 30 = .ok (.aload_n 1, 1) := by decide +kernel
theorem dX1_become_31 : decode cX1_become 31 = .ok (.getfield 18, 3) := by decide +kernel
theorem dX1_become_34 : decode cX1_become 34 = .ok (.iconst 0, 1) := by decide +kernel
theorem dX1_become_35 : decode cX1_become 35 = .ok (.aload_n 0, 1) := by decide +kernel
theorem dX1_become_36 : decode cX1_become 36 = .ok (.getfield 18, 3) := by decide +kernel
theorem dX1_become_39 : decode cX1_become 39 = .ok (.iconst 0, 1) := by decide +kernel
theorem dX1_become_40 : decode cX1_become 40 = .ok (.bipush 12, 2) := by decide +kernel
theorem dX1_become_42 : decode cX1_become 42 = .ok (.invokestatic 28, 3) := by decide +kernel
theorem dX1_become_45 : decode cX1_become 45 = .ok (.aload_n 0, 1) := by decide +kernel
theorem dX1_become_46 : decode cX1_become 46 = .ok (.aload_n 1, 1) := by decide +kernel
theorem dX1_become_47 : decode cX1_become 47 = .ok (.getfield 21, 3) := by decide +kernel
theorem dX1_become_50 : decode cX1_become 50 = .ok (.putfield 21, 3) := by decide +kernel
theorem dX1_become_53 : decode cX1_become 53 = .ok (.aload_n 0, 1) := by decide +kernel
theorem dX1_become_54 : decode cX1_become 54 = .ok (.aload_n 1, 1) := by decide +kernel
theorem dX1_become_55 : decode cX1_become 55 = .ok (.getfield 25, 3) := by decide +kernel
theorem dX1_become_58 : decode cX1_become 58 = .ok (.putfield 25, 3) := by decide +kernel
theorem dX1_become_61 : decode cX1_become 61 = .ok (.return_, 1) := by decide +kernel
theorem dX1_tellPeak_0 : decode cX1_tellPeak 0 = .ok (.iload_n 1, 1) := by decide +kernel
theorem dX1_tellPeak_1 : decode cX1_tellPeak 1 = .ok (.ifCond .lt 28, 3) := by decide +kernel
theorem dX1_tellPeak_4 : decode cX1_tellPeak 4 = .ok (.iload_n 1, 1) := by decide +kernel
theorem dX1_tellPeak_5 : decode cX1_tellPeak 5 = .ok (.iconst 4, 1) := by decide +kernel
theorem dX1_tellPeak_6 : decode cX1_tellPeak 6 = .ok (.if_icmp .ge 23, 3) := by decide +kernel
theorem dX1_tellPeak_9 : decode cX1_tellPeak 9 = .ok (.iload_n 2, 1) := by decide +kernel
theorem dX1_tellPeak_10 : decode cX1_tellPeak 10 = .ok (.iconst 1, 1) := by decide +kernel
theorem dX1_tellPeak_11 : decode cX1_tellPeak 11 = .ok (.if_icmp .lt 18, 3) := by decide +kernel
theorem dX1_tellPeak_14 : decode cX1_tellPeak 14 = .ok (.iload_n 2, 1) := by decide +kernel
theorem dX1_tellPeak_15 : decode cX1_tellPeak 15 = .ok (.bipush 20, 2) := by decide +kernel
theorem dX1_tellPeak_17 : decode cX1_tellPeak 17 = .ok (.if_icmp .gt 12, 3) := by decide +kernel
theorem dX1_tellPeak_20 : decode cX1_tellPeak 20 = .ok (.aload_n 0, 1) := by decide +kernel
theorem dX1_tellPeak_21 : decode cX1_tellPeak 21 = .ok (.getfield 21, 3) := by decide +kernel
theorem dX1_tellPeak_24 : decode cX1_tellPeak 24 = .ok (.bipush 6, 2) := by decide +kernel
theorem dX1_tellPeak_26 : decode cX1_tellPeak 26 = .ok (.if_icmp .lt 5, 3) := by decide +kernel
theorem dX1_tellPeak_29 : decode cX1_tellPeak 29 = .ok (.iconst 0, 1) := by decide +kernel
theorem dX1_tellPeak_30 : decode cX1_tellPeak 30 = .ok (.ireturn, 1) := by decide +kernel
theorem dX1_tellPeak_31 : decode cX1_tellPeak 31 = .ok (.aload_n 0, 1) := by decide +kernel
theorem dX1_tellPeak_32 : decode cX1_tellPeak 32 = .ok (.getfield 9, 3) := by decide +kernel
theorem dX1_tellPeak_35 : decode cX1_tellPeak 35 = .ok (.aload_n 0, 1) := by decide +kernel
theorem dX1_tellPeak_36 : decode cX1_tellPeak 36 = .ok (.getfield 21, 3) := by decide +kernel
theorem dX1_tellPeak_39 : decode cX1_tellPeak 39 = .ok (.iload_n 1, 1) := by decide +kernel
theorem dX1_tellPeak_40 : decode cX1_tellPeak 40 = .ok (.iastore, 1) := by decide +kernel
theorem dX1_tellPeak_41 : decode cX1_tellPeak 41 = .ok (.aload_n 0, 1) := by decide +kernel
theorem dX1_tellPeak_42 : decode cX1_tellPeak 42 = .ok (.getfield 15, 3) := by decide +kernel
theorem dX1_tellPeak_45 : decode cX1_tellPeak 45 = .ok (.aload_n 0, 1) := by decide +kernel
theorem dX1_tellPeak_46 : decode cX1_tellPeak 46 = .ok (.getfield 21, 3) := by decide +kernel
theorem dX1_tellPeak_49 : decode cX1_tellPeak 49 = .ok (.iload_n 2, 1) := by decide +kernel
theorem dX1_tellPeak_50 : decode cX1_tellPeak 50 = .ok (.iastore, 1) := by decide +kernel
theorem dX1_tellPeak_51 : decode cX1_tellPeak 51 = .ok (.aload_n 0, 1) := by decide +kernel
theorem dX1_tellPeak_52 : decode cX1_tellPeak 52 = .ok (.dup, 1) := by decide +kernel
theorem dX1_tellPeak_53 : decode cX1_tellPeak 53 = .ok (.getfield 21, 3) := by decide +kernel
theorem dX1_tellPeak_56 : decode cX1_tellPeak 56 = .ok (.iconst 1, 1) := by decide +kernel
theorem dX1_tellPeak_57 : decode cX1_tellPeak 57 = .ok (.iadd, 1) := by decide +kernel
theorem dX1_tellPeak_58 : decode cX1_tellPeak 58 = .ok (.putfield 21, 3) := by decide +kernel
theorem dX1_tellPeak_61 : decode cX1_tellPeak 61 = .ok (.iconst 1, 1) := by decide +kernel
theorem dX1_tellPeak_62 : decode cX1_tellPeak 62 = .ok (.ireturn, 1) := by decide +kernel
theorem dX1_tellWind_0 : decode cX1_tellWind 0 = .ok (.iload_n 1, 1) := by decide +kernel
theorem dX1_tellWind_1 : decode cX1_tellWind 1 = .ok (.ifCond .lt 18, 3) := by decide +kernel
theorem dX1_tellWind_4 : decode cX1_tellWind 4 = .ok (.iload_n 1, 1) := by decide +kernel
theorem dX1_tellWind_5 : decode cX1_tellWind 5 = .ok (.bipush 20, 2) := by decide +kernel
theorem dX1_tellWind_7 : decode cX1_tellWind 7 = .ok (.if_icmp .gt 12, 3) := by decide +kernel
theorem dX1_tellWind_10 : decode cX1_tellWind 10 = .ok (.aload_n 0, 1) := by decide +kernel
theorem dX1_tellWind_11 : decode cX1_tellWind 11 = .ok (.getfield 25, 3) := by decide +kernel
theorem dX1_tellWind_14 : decode cX1_tellWind 14 = .ok (.bipush 12, 2) := by decide +kernel
theorem dX1_tellWind_16 : decode cX1_tellWind 16 = .ok (.if_icmp .lt 5, 3) := by decide +kernel
theorem dX1_tellWind_19 : decode cX1_tellWind 19 = .ok (.iconst 0, 1) := by decide +kernel
theorem dX1_tellWind_20 : decode cX1_tellWind 20 = .ok (.ireturn, 1) := by decide +kernel
theorem dX1_tellWind_21 : decode cX1_tellWind 21 = .ok (.aload_n 0, 1) := by decide +kernel
theorem dX1_tellWind_22 : decode cX1_tellWind 22 = .ok (.getfield 18, 3) := by decide +kernel
theorem dX1_tellWind_25 : decode cX1_tellWind 25 = .ok (.aload_n 0, 1) := by decide +kernel
theorem dX1_tellWind_26 : decode cX1_tellWind 26 = .ok (.getfield 25, 3) := by decide +kernel
theorem dX1_tellWind_29 : decode cX1_tellWind 29 = .ok (.iload_n 1, 1) := by decide +kernel
theorem dX1_tellWind_30 : decode cX1_tellWind 30 = .ok (.iastore, 1) := by decide +kernel
theorem dX1_tellWind_31 : decode cX1_tellWind 31 = .ok (.aload_n 0, 1) := by decide +kernel
theorem dX1_tellWind_32 : decode cX1_tellWind 32 = .ok (.dup, 1) := by decide +kernel
theorem dX1_tellWind_33 : decode cX1_tellWind 33 = .ok (.getfield 25, 3) := by decide +kernel
theorem dX1_tellWind_36 : decode cX1_tellWind 36 = .ok (.iconst 1, 1) := by decide +kernel
theorem dX1_tellWind_37 : decode cX1_tellWind 37 = .ok (.iadd, 1) := by decide +kernel
theorem dX1_tellWind_38 : decode cX1_tellWind 38 = .ok (.putfield 25, 3) := by decide +kernel
theorem dX1_tellWind_41 : decode cX1_tellWind 41 = .ok (.iconst 1, 1) := by decide +kernel
theorem dX1_tellWind_42 : decode cX1_tellWind 42 = .ok (.ireturn, 1) := by decide +kernel
theorem dX1_isPeak_0 : decode cX1_isPeak 0 = .ok (.iload_n 1, 1) := by decide +kernel
theorem dX1_isPeak_1 : decode cX1_isPeak 1 = .ok (.ifCond .lt 15, 3) := by decide +kernel
theorem dX1_isPeak_4 : decode cX1_isPeak 4 = .ok (.iload_n 1, 1) := by decide +kernel
theorem dX1_isPeak_5 : decode cX1_isPeak 5 = .ok (.aload_n 0, 1) := by decide +kernel
theorem dX1_isPeak_6 : decode cX1_isPeak 6 = .ok (.getfield 21, 3) := by decide +kernel
theorem dX1_isPeak_9 : decode cX1_isPeak 9 = .ok (.if_icmp .ge 7, 3) := by decide +kernel
theorem dX1_isPeak_12 : decode cX1_isPeak 12 = .ok (.iconst 1, 1) := by decide +kernel
theorem dX1_isPeak_13 : decode cX1_isPeak 13 = .ok (.goto 4, 3) := by decide +kernel
theorem dX1_isPeak_16 : decode cX1_isPeak 16 = .ok (.iconst 0, 1) := by decide +kernel
theorem dX1_isPeak_17 : decode cX1_isPeak 17 = .ok (.ireturn, 1) := by decide +kernel
theorem dX1_kindOf_0 : decode cX1_kindOf 0 = .ok (.aload_n 0, 1) := by decide +kernel
theorem dX1_kindOf_1 : decode cX1_kindOf 1 = .ok (.iload_n 1, 1) := by decide +kernel
theorem dX1_kindOf_2 : decode cX1_kindOf 2 = .ok (.invokevirtual 34, 3) := by decide +kernel
theorem dX1_kindOf_5 : decode cX1_kindOf 5 = .ok (.ifCond .eq 12, 3) := by decide +kernel
theorem dX1_kindOf_8 : decode cX1_kindOf 8 = .ok (.aload_n 0, 1) := by decide +kernel
theorem dX1_kindOf_9 : decode cX1_kindOf 9 = .ok (.getfield 9, 3) := by decide +kernel
theorem dX1_kindOf_12 : decode cX1_kindOf 12 = .ok (.iload_n 1, 1) := by decide +kernel
theorem dX1_kindOf_13 : decode cX1_kindOf 13 = .ok (.iaload, 1) := by decide +kernel
theorem dX1_kindOf_14 : decode cX1_kindOf 14 = .ok (.goto 4, 3) := by decide +kernel
theorem dX1_kindOf_17 : decode cX1_kindOf 17 = .ok (.iconst 0, 1) := by decide +kernel
theorem dX1_kindOf_18 : decode cX1_kindOf 18 = .ok (.ireturn, 1) := by decide +kernel
theorem dX1_heightOf_0 : decode cX1_heightOf 0 = .ok (.aload_n 0, 1) := by decide +kernel
theorem dX1_heightOf_1 : decode cX1_heightOf 1 = .ok (.iload_n 1, 1) := by decide +kernel
theorem dX1_heightOf_2 : decode cX1_heightOf 2 = .ok (.invokevirtual 34, 3) := by decide +kernel
theorem dX1_heightOf_5 : decode cX1_heightOf 5 = .ok (.ifCond .eq 12, 3) := by decide +kernel
theorem dX1_heightOf_8 : decode cX1_heightOf 8 = .ok (.aload_n 0, 1) := by decide +kernel
theorem dX1_heightOf_9 : decode cX1_heightOf 9 = .ok (.getfield 15, 3) := by decide +kernel
theorem dX1_heightOf_12 : decode cX1_heightOf 12 = .ok (.iload_n 1, 1) := by decide +kernel
theorem dX1_heightOf_13 : decode cX1_heightOf 13 = .ok (.iaload, 1) := by decide +kernel
theorem dX1_heightOf_14 : decode cX1_heightOf 14 = .ok (.goto 4, 3) := by decide +kernel
theorem dX1_heightOf_17 : decode cX1_heightOf 17 = .ok (.iconst 0, 1) := by decide +kernel
theorem dX1_heightOf_18 : decode cX1_heightOf 18 = .ok (.ireturn, 1) := by decide +kernel
theorem dX1_hasGoats_0 : decode cX1_hasGoats 0 = .ok (.aload_n 0, 1) := by decide +kernel
theorem dX1_hasGoats_1 : decode cX1_hasGoats 1 = .ok (.iload_n 1, 1) := by decide +kernel
theorem dX1_hasGoats_2 : decode cX1_hasGoats 2 = .ok (.invokevirtual 38, 3) := by decide +kernel
theorem dX1_hasGoats_5 : decode cX1_hasGoats 5 = .ok (.iconst 3, 1) := by decide +kernel
theorem dX1_hasGoats_6 : decode cX1_hasGoats 6 = .ok (.if_icmp .ne 7, 3) := by decide +kernel
theorem dX1_hasGoats_9 : decode cX1_hasGoats 9 = .ok (.iconst 1, 1) := by decide +kernel
theorem dX1_hasGoats_10 : decode cX1_hasGoats 10 = .ok (.goto 4, 3) := by decide +kernel
theorem dX1_hasGoats_13 : decode cX1_hasGoats 13 = .ok (.iconst 0, 1) := by decide +kernel
theorem dX1_hasGoats_14 : decode cX1_hasGoats 14 = .ok (.ireturn, 1) := by decide +kernel
theorem dX1_windIn_0 : decode cX1_windIn 0 = .ok (.aload_n 0, 1) := by decide +kernel
theorem dX1_windIn_1 : decode cX1_windIn 1 = .ok (.getfield 25, 3) := by decide +kernel
theorem dX1_windIn_4 : decode cX1_windIn 4 = .ok (.iconst 1, 1) := by decide +kernel
theorem dX1_windIn_5 : decode cX1_windIn 5 = .ok (.if_icmp .lt 7, 3) := by decide +kernel
theorem dX1_windIn_8 : decode cX1_windIn 8 = .ok (.iload_n 1, 1) := by decide +kernel
theorem dX1_windIn_9 : decode cX1_windIn 9 = .ok (.ifCond .ge 7, 3) := by decide +kernel
theorem dX1_windIn_12 : decode cX1_windIn 12 = .ok (.iconst 3, 1) := by decide +kernel
theorem dX1_windIn_13 : decode cX1_windIn 13 = .ok (.goto 14, 3) := by decide +kernel
theorem dX1_windIn_16 : decode cX1_windIn 16 = .ok (.aload_n 0, 1) := by decide +kernel
theorem dX1_windIn_17 : decode cX1_windIn 17 = .ok (.getfield 18, 3) := by decide +kernel
theorem dX1_windIn_20 : decode cX1_windIn 20 = .ok (.iload_n 1, 1) := by decide +kernel
theorem dX1_windIn_21 : decode cX1_windIn 21 = .ok (.aload_n 0, 1) := by decide +kernel
theorem dX1_windIn_22 : decode cX1_windIn 22 = .ok (.getfield 25, 3) := by decide +kernel
theorem dX1_windIn_25 : decode cX1_windIn 25 = .ok (.irem, 1) := by decide +kernel
theorem dX1_windIn_26 : decode cX1_windIn 26 = .ok (.iaload, 1) := by decide +kernel
theorem dX1_windIn_27 : decode cX1_windIn 27 = .ok (.ireturn, 1) := by decide +kernel
theorem dX1_forceAt_0 : decode cX1_forceAt 0 = .ok (.aload_n 0, 1) := by decide +kernel
theorem dX1_forceAt_1 : decode cX1_forceAt 1 = .ok (.iload_n 1, 1) := by decide +kernel
theorem dX1_forceAt_2 : decode cX1_forceAt 2 = .ok (.invokevirtual 38, 3) := by decide +kernel
theorem dX1_forceAt_5 : decode cX1_forceAt 5 = .ok (.istore_n 3, 1) := by decide +kernel
theorem dX1_forceAt_6 : decode cX1_forceAt 6 = .ok (.iload_n 3, 1) := by decide +kernel
theorem dX1_forceAt_7 : decode cX1_forceAt 7 = .ok (.iconst 1, 1) := by decide +kernel
theorem dX1_forceAt_8 : decode cX1_forceAt 8 = .ok (.if_icmp .ne 7, 3) := by decide +kernel
theorem dX1_forceAt_11 : decode cX1_forceAt 11 = .ok (.iload_n 2, 1) := by decide +kernel
theorem dX1_forceAt_12 : decode cX1_forceAt 12 = .ok (.iconst 2, 1) := by decide +kernel
theorem dX1_forceAt_13 : decode cX1_forceAt 13 = .ok (.iadd, 1) := by decide +kernel
theorem dX1_forceAt_14 : decode cX1_forceAt 14 = .ok (.ireturn, 1) := by decide +kernel
theorem dX1_forceAt_15 : decode cX1_forceAt 15 = .ok (.iload_n 3, 1) := by decide +kernel
theorem dX1_forceAt_16 : decode cX1_forceAt 16 = .ok (.iconst 2, 1) := by decide +kernel
theorem dX1_forceAt_17 : decode cX1_forceAt 17 = .ok (.if_icmp .ne 13, 3) := by decide +kernel
theorem dX1_forceAt_20 : decode cX1_forceAt 20 = .ok (.iconst 0, 1) := by decide +kernel
theorem dX1_forceAt_21 : decode cX1_forceAt 21 = .ok (.iload_n 2, 1) := by decide +kernel
theorem dX1_forceAt_22 : decode cX1_forceAt 22 = .ok (.iconst 2, 1) := by decide +kernel
theorem dX1_forceAt_23 : decode cX1_forceAt 23 = .ok (.isub, 1) := by decide +kernel
theorem dX1_forceAt_24 : decode cX1_forceAt 24 = .ok (.invokestatic 42, 3) := by decide +kernel
theorem dX1_forceAt_27 : decode cX1_forceAt 27 = .ok (.goto 4, 3) := by decide +kernel
theorem dX1_forceAt_30 : decode cX1_forceAt 30 = .ok (.iload_n 2, 1) := by decide +kernel
theorem dX1_forceAt_31 : decode cX1_forceAt 31 = .ok (.ireturn, 1) := by decide +kernel
theorem dX2_init_0 : decode cX2_init 0 = .ok (.aload_n 0, 1) := by decide +kernel
theorem dX2_init_1 : decode cX2_init 1 = .ok (.invokespecial 3, 3) := by decide +kernel
theorem dX2_init_4 : decode cX2_init 4 = .ok (.aload_n 0, 1) := by decide +kernel
theorem dX2_init_5 : decode cX2_init 5 = .ok (.sipush 200, 3) := by decide +kernel
theorem dX2_init_8 : decode cX2_init 8 = .ok (.newarray .char, 2) := by decide +kernel
theorem dX2_init_10 : decode cX2_init 10 = .ok (.putfield 9, 3) := by decide +kernel
theorem dX2_init_13 : decode cX2_init 13 = .ok (.aload_n 0, 1) := by decide +kernel
theorem dX2_init_14 : decode cX2_init 14 = .ok (.iconst 3, 1) := by decide +kernel
theorem dX2_init_15 : decode cX2_init 15 = .ok (.newarray .int, 2) := by decide +kernel
theorem dX2_init_17 : decode cX2_init 17 = .ok (.putfield 15, 3) := by decide +kernel
theorem dX2_init_20 : decode cX2_init 20 = .ok (.aload_n 0, 1) := by decide +kernel
theorem dX2_init_21 : decode cX2_init 21 = .ok (.new 19, 3) := by decide +kernel
theorem dX2_init_24 : decode cX2_init 24 = .ok (.dup, 1) := by decide +kernel
theorem dX2_init_25 : decode cX2_init 25 = .ok (.invokespecial 21, 3) := by decide +kernel
theorem dX2_init_28 : decode cX2_init 28 = .ok (.putfield 22, 3) := by decide +kernel
theorem dX2_init_31 : decode cX2_init 31 = .ok (.aload_n 0, 1) := by decide +kernel
theorem dX2_init_32 : decode cX2_init 32 = .ok (.new 26, 3) := by decide +kernel
theorem dX2_init_35 : decode cX2_init 35 = .ok (.dup, 1) := by decide +kernel
theorem dX2_init_36 : decode cX2_init 36 = .ok (.invokespecial 28, 3) := by decide +kernel
theorem dX2_init_39 : decode cX2_init 39 = .ok (.putfield 29, 3) := by decide +kernel
theorem dX2_init_42 : decode cX2_init 42 = .ok (.return_, 1) := by decide +kernel
theorem dX2_copyDown_0 : decode cX2_copyDown 0 = .ok (.aload_n 0, 1) := by decide +kernel
theorem dX2_copyDown_1 : decode cX2_copyDown 1 = .ok (.iconst 0, 1) := by decide +kernel
theorem dX2_copyDown_2 : decode cX2_copyDown 2 = .ok (.putfield 33, 3) := by decide +kernel
theorem dX2_copyDown_5 : decode cX2_copyDown 5 = .ok (.iconst 0, 1) := by decide +kernel
theorem dX2_copyDown_6 : decode cX2_copyDown 6 = .ok (.istore_n 2, 1) := by decide +kernel
theorem dX2_copyDown_7 : decode cX2_copyDown 7 = .ok (.iload_n 2, 1) := by decide +kernel
theorem dX2_copyDown_8 : decode cX2_copyDown 8 = .ok (.aload_n 1, 1) := by decide +kernel
theorem dX2_copyDown_9 : decode cX2_copyDown 9 = .ok (.invokevirtual 37, 3) := by decide +kernel
theorem dX2_copyDown_12 : decode cX2_copyDown 12 = .ok (.if_icmp .ge 19, 3) := by decide +kernel
theorem dX2_copyDown_15 : decode cX2_copyDown 15 = .ok (.aload_n 0, 1) := by decide +kernel
theorem dX2_copyDown_16 : decode cX2_copyDown 16 = .ok (.aload_n 1, 1) := by decide +kernel
theorem dX2_copyDown_17 : decode cX2_copyDown 17 = .ok (.iload_n 2, 1) := by decide +kernel
theorem dX2_copyDown_18 : decode cX2_copyDown 18 = .ok (.invokevirtual 42, 3) := by decide +kernel
theorem dX2_copyDown_21 : decode cX2_copyDown 21 = .ok (.invokevirtual 46, 3) := by decide +kernel
theorem dX2_copyDown_24 : decode cX2_copyDown 24 = .ok (.pop, 1) := by decide +kernel
theorem dX2_copyDown_25 : decode cX2_copyDown 25 = .ok (.iinc 2 1, 3) := by decide +kernel
theorem dX2_copyDown_28 : decode cX2_copyDown 28 = .ok (.goto (-21), 3) := by decide +kernel
theorem dX2_copyDown_31 : decode cX2_copyDown 31 = .ok (.return_, 1) := by decide +kernel
theorem dX2_append_0 : decode cX2_append 0 = .ok (.aload_n 0, 1) := by decide +kernel
theorem dX2_append_1 : decode cX2_append 1 = .ok (.getfield 33, 3) := by decide +kernel
theorem dX2_append_4 : decode cX2_append 4 = .ok (.sipush 200, 3) := by decide +kernel
theorem dX2_append_7 : decode cX2_append 7 = .ok (.if_icmp .lt 5, 3) := by decide +kernel
theorem dX2_append_10 : decode cX2_append 10 = .ok (.iconst 0, 1) := by decide +kernel
theorem dX2_append_11 : decode cX2_append 11 = .ok (.ireturn, 1) := by decide +kernel
theorem dX2_append_12 : decode cX2_append 12 = .ok (.aload_n 0, 1) := by decide +kernel
theorem dX2_append_13 : decode cX2_append 13 = .ok (.getfield 9, 3) := by decide +kernel
theorem dX2_append_16 : decode cX2_append 16 = .ok (.aload_n 0, 1) := by decide +kernel
theorem dX2_append_17 : decode cX2_append 17 = .ok (.getfield 33, 3) := by decide +kernel
theorem dX2_append_20 : decode cX2_append 20 = .ok (.iload_n 1, 1) := by decide +kernel
theorem dX2_append_21 : decode cX2_append 21 = .ok (.castore, 1) := by decide +kernel
theorem dX2_append_22 : decode cX2_append 22 = .ok (.aload_n 0, 1) := by decide +kernel
theorem dX2_append_23 : decode cX2_append 23 = .ok (.dup, 1) := by decide +kernel
theorem dX2_append_24 : decode cX2_append 24 = .ok (.getfield 33, 3) := by decide +kernel
theorem dX2_append_27 : decode cX2_append 27 = .ok (.iconst 1, 1) := by decide +kernel
theorem dX2_append_28 : decode cX2_append 28 = .ok (.iadd, 1) := by decide +kernel
theorem dX2_append_29 : decode cX2_append 29 = .ok (.putfield 33, 3) := by decide +kernel
theorem dX2_append_32 : decode cX2_append 32 = .ok (.iconst 1, 1) := by decide +kernel
theorem dX2_append_33 : decode cX2_append 33 = .ok (.ireturn, 1) := by decide +kernel
theorem dX2_readAll_0 : decode cX2_readAll 0 = .ok (.aload_n 0, 1) := by decide +kernel
theorem dX2_readAll_1 : decode cX2_readAll 1 = .ok (.getfield 22, 3) := by decide +kernel
theorem dX2_readAll_4 : decode cX2_readAll 4 = .ok (.invokevirtual 50, 3) := by decide +kernel
theorem dX2_readAll_7 : decode cX2_readAll 7 = .ok (.aload_n 0, 1) := by decide +kernel
theorem dX2_readAll_8 : decode cX2_readAll 8 = .ok (.getfield 29, 3) := by decide +kernel
theorem dX2_readAll_11 : decode cX2_readAll 11 = .ok (.invokevirtual 53, 3) := by decide +kernel
theorem dX2_readAll_14 : decode cX2_readAll 14 = .ok (.aload_n 0, 1) := by decide +kernel
theorem dX2_readAll_15 : decode cX2_readAll 15 = .ok (.iconst 0, 1) := by decide +kernel
theorem dX2_readAll_16 : decode cX2_readAll 16 = .ok (.putfield 54, 3) := by decide +kernel
theorem dX2_readAll_19 : decode cX2_readAll 19 = .ok (.iconst 0, 1) := by decide +kernel
theorem dX2_readAll_20 : decode cX2_readAll 20 = .ok (.istore_n 1, 1) := by decide +kernel
theorem dX2_readAll_21 : decode cX2_readAll 21 = .ok (.iload_n 1, 1) := by decide +kernel
theorem dX2_readAll_22 : decode cX2_readAll 22 = .ok (.sipush 200, 3) := by decide +kernel
theorem dX2_readAll_25 : decode cX2_readAll 25 = .ok (.if_icmp .ge 46, 3) := by decide +kernel
theorem dX2_readAll_28 : decode cX2_readAll 28 = .ok (.aload_n 0, 1) := by decide +kernel
theorem dX2_readAll_29 : decode cX2_readAll 29 = .ok (.getfield 54, 3) := by decide +kernel
theorem dX2_readAll_32 : decode cX2_readAll 32 = .ok (.aload_n 0, 1) := by decide +kernel
theorem dX2_readAll_33 : decode cX2_readAll 33 = .ok (.getfield 33, 3) := by decide +kernel
theorem dX2_readAll_36 : decode cX2_readAll 36 = .ok (.if_icmp .ge 35, 3) := by decide +kernel
theorem dX2_readAll_39 : decode cX2_readAll 39 = .ok (.aload_n 0, 1) := by decide +kernel
theorem dX2_readAll_40 : decode cX2_readAll 40 = .ok (.getfield 54, 3) := by decide +kernel
theorem dX2_readAll_43 : decode cX2_readAll 43 = .ok (.istore_n 2, 1) := by decide +kernel
theorem dX2_readAll_44 : decode cX2_readAll 44 = .ok (.aload_n 0, 1) := by decide +kernel
theorem dX2_readAll_45 : decode cX2_readAll 45 = .ok (.invokevirtual 57, 3) := by decide +kernel
theorem dX2_readAll_48 : decode cX2_readAll 48 = .ok (.ifCond .eq 15, 3) := by decide +kernel
theorem dX2_readAll_51 : decode cX2_readAll 51 = .ok (.aload_n 0, 1) := by decide +kernel
theorem dX2_readAll_52 : decode cX2_readAll 52 = .ok (.aload_n 0, 1) := by decide +kernel
theorem dX2_readAll_53 : decode cX2_readAll 53 = .ok (.iload_n 2, 1) := by decide +kernel
theorem dX2_readAll_54 : decode cX2_readAll 54 = .ok (.invokevirtual 61, 3) := by decide +kernel
theorem dX2_readAll_57 : decode cX2_readAll 57 = .ok (.invokevirtual 64, 3) := by decide +kernel
theorem dX2_readAll_60 : decode cX2_readAll 60 = .ok (.ifCond .ne 5, 3) := by decide +kernel
theorem dX2_readAll_63 : decode cX2_readAll 63 = .ok (.iload_n 2, 1) := by decide +kernel
theorem dX2_readAll_64 : decode cX2_readAll 64 = .ok (.ireturn, 1) := by decide +kernel
theorem dX2_readAll_65 : decode cX2_readAll 65 = .ok (.iinc 1 1, 3) := by decide +kernel
theorem dX2_readAll_68 : decode cX2_readAll 68 = .ok (.goto (-47), 3) := by decide +kernel
theorem dX2_readAll_71 : decode cX2_readAll 71 = .ok (.bipush (-4), 2) := by decide +kernel
theorem dX2_readAll_73 : decode cX2_readAll 73 = .ok (.ireturn, 1) := by decide +kernel
theorem dX2_readItem_0 : decode cX2_readItem 0 = .ok (.aload_n 0, 1) := by decide +kernel
theorem dX2_readItem_1 : decode cX2_readItem 1 = .ok (.aload_n 0, 1) := by decide +kernel
theorem dX2_readItem_2 : decode cX2_readItem 2 = .ok (.getfield 54, 3) := by decide +kernel
theorem dX2_readItem_5 : decode cX2_readItem 5 = .ok (.invokevirtual 61, 3) := by decide +kernel
theorem dX2_readItem_8 : decode cX2_readItem 8 = .ok (.invokestatic 67, 3) := by decide +kernel
theorem dX2_readItem_11 : decode cX2_readItem 11 = .ok (.istore_n 1, 1) := by decide +kernel
theorem dX2_readItem_12 : decode cX2_readItem 12 = .ok (.aload_n 0, 1) := by decide +kernel
theorem dX2_readItem_13 : decode cX2_readItem 13 = .ok (.dup, 1) := by decide +kernel
theorem dX2_readItem_14 : decode cX2_readItem 14 = .ok (.getfield 54, 3) := by decide +kernel
theorem dX2_readItem_17 : decode cX2_readItem 17 = .ok (.iconst 1, 1) := by decide +kernel
theorem dX2_readItem_18 : decode cX2_readItem 18 = .ok (.iadd, 1) := by decide +kernel
theorem dX2_readItem_19 : decode cX2_readItem 19 = .ok (.putfield 54, 3) := by decide +kernel
theorem dX2_readItem_22 : decode cX2_readItem 22 = .ok (.iconst 0, 1) := by decide +kernel
theorem dX2_readItem_23 : decode cX2_readItem 23 = .ok (.istore_n 2, 1) := by decide +kernel
theorem dX2_readItem_24 : decode cX2_readItem 24 = .ok (.iload_n 2, 1) := by decide +kernel
theorem dX2_readItem_25 : decode cX2_readItem 25 = .ok (.iload_n 1, 1) := by decide +kernel
theorem dX2_readItem_26 : decode cX2_readItem 26 = .ok (.if_icmp .ge 72, 3) := by decide +kernel
theorem dX2_readItem_29 : decode cX2_readItem 29 = .ok (.iload_n 2, 1) := by decide +kernel
theorem dX2_readItem_30 : decode cX2_readItem 30 = .ok (.iconst 3, 1) := by decide +kernel
theorem dX2_readItem_31 : decode cX2_readItem 31 = .ok (.if_icmp .ge 67, 3) := by decide +kernel
theorem dX2_readItem_34 : decode cX2_readItem 34 = .ok (.aload_n 0, 1) := by decide +kernel
theorem dX2_readItem_35 : decode cX2_readItem 35 = .ok (.getfield 15, 3) := by decide +kernel
theorem dX2_readItem_38 : decode cX2_readItem 38 = .ok (.iload_n 2, 1) := by decide +kernel
theorem dX2_readItem_39 : decode cX2_readItem 39 = .ok (.aload_n 0, 1) := by decide +kernel
theorem dX2_readItem_40 : decode cX2_readItem 40 = .ok (.invokevirtual 71, 3) := by decide +kernel
theorem dX2_readItem_43 : decode cX2_readItem 43 = .ok (.iastore, 1) := by decide +kernel
theorem dX2_readItem_44 : decode cX2_readItem 44 = .ok (.iload_n 2, 1) := by decide +kernel
theorem dX2_readItem_45 : decode cX2_readItem 45 = .ok (.iconst 1, 1) := by decide +kernel
theorem dX2_readItem_46 : decode cX2_readItem 46 = .ok (.iadd, 1) := by decide +kernel
theorem dX2_readItem_47 : decode cX2_readItem 47 = .ok (.iload_n 1, 1) := by decide +kernel
theorem dX2_readItem_48 : decode cX2_readItem 48 = .ok (.if_icmp .ge 8, 3) := by decide +kernel
theorem dX2_readItem_51 : decode cX2_readItem 51 = .ok (.bipush 44, 2) := by decide +kernel
theorem dX2_readItem_53 : decode cX2_readItem 53 = .ok (.goto 5, 3) := by decide +kernel
theorem dX2_readItem_56 : decode cX2_readItem 56 = .ok (.bipush 59, 2) := by decide +kernel
theorem dX2_readItem_58 : decode cX2_readItem 58 = .ok (.istore_n 3, 1) := by decide +kernel
theorem dX2_readItem_59 : decode cX2_readItem 59 = .ok (.aload_n 0, 1) := by decide +kernel
theorem dX2_readItem_60 : decode cX2_readItem 60 = .ok (.getfield 15, 3) := by decide +kernel
theorem dX2_readItem_63 : decode cX2_readItem 63 = .ok (.iload_n 2, 1) := by decide +kernel
theorem dX2_readItem_64 : decode cX2_readItem 64 = .ok (.iaload, 1) := by decide +kernel
theorem dX2_readItem_65 : decode cX2_readItem 65 = .ok (.ifCond .lt 15, 3) := by decide +kernel
theorem dX2_readItem_68 : decode cX2_readItem 68 = .ok (.aload_n 0, 1) := by decide +kernel
theorem dX2_readItem_69 : decode cX2_readItem 69 = .ok (.aload_n 0, 1) := by decide +kernel
theorem dX2_readItem_70 : decode cX2_readItem 70 = .ok (.getfield 54, 3) := by decide +kernel
theorem dX2_readItem_73 : decode cX2_readItem 73 = .ok (.invokevirtual 61, 3) := by decide +kernel
theorem dX2_readItem_76 : decode cX2_readItem 76 = .ok (.iload_n 3, 1) := by decide +kernel
theorem dX2_readItem_77 : decode cX2_readItem 77 = .ok (.if_icmp .eq 5, 3) := by decide +kernel
theorem dX2_readItem_80 : decode cX2_readItem 80 = .ok (.iconst 0, 1) := by decide +kernel
theorem dX2_readItem_81 : decode cX2_readItem 81 = .ok (.ireturn, 1) := by decide +kernel
theorem dX2_readItem_82 : decode cX2_readItem 82 = .ok (.aload_n 0, 1) := by decide +kernel
theorem dX2_readItem_83 : decode cX2_readItem 83 = .ok (.dup, 1) := by decide +kernel
theorem dX2_readItem_84 : decode cX2_readItem 84 = .ok (.getfield 54, 3) := by decide +kernel
theorem dX2_readItem_87 : decode cX2_readItem 87 = .ok (.iconst 1, 1) := by decide +kernel
theorem dX2_readItem_88 : decode cX2_readItem 88 = .ok (.iadd, 1) := by decide +kernel
theorem dX2_readItem_89 : decode cX2_readItem 89 = .ok (.putfield 54, 3) := by decide +kernel
theorem dX2_readItem_92 : decode cX2_readItem 92 = .ok (.iinc 2 1, 3) := by decide +kernel
theorem dX2_readItem_95 : decode cX2_readItem 95 = .ok (.goto (-71), 3) := by decide +kernel
theorem dX2_readItem_98 : decode cX2_readItem 98 = .ok (.iload_n 1, 1) := by decide +kernel
theorem dX2_readItem_99 : decode cX2_readItem 99 = .ok (.ifCond .le 7, 3) := by decide +kernel
theorem dX2_readItem_102 : decode cX2_readItem 102 = .ok (.iconst 1, 1) := by decide +kernel
theorem dX2_readItem_103 : decode cX2_readItem 103 = .ok (.goto 4, 3) := by decide +kernel
theorem dX2_readItem_106 : decode cX2_readItem 106 = .ok (.iconst 0, 1) := by decide +kernel
theorem dX2_readItem_107 : decode cX2_readItem 107 = .ok (.ireturn, 1) := by decide +kernel
theorem dX2_numbersBehind_0 : decode cX2_numbersBehind 0 = .ok (.iload_n 0, 1) := by decide +kernel
theorem dX2_numbersBehind_1 : decode cX2_numbersBehind 1 = .ok (.bipush 111, 2) := by decide +kernel
theorem dX2_numbersBehind_3 : decode cX2_numbersBehind 3 = .ok (.if_icmp .ne 5, 3) := by decide +kernel
theorem dX2_numbersBehind_6 : decode cX2_numbersBehind 6 = .ok (.iconst 3, 1) := by decide +kernel
theorem dX2_numbersBehind_7 : decode cX2_numbersBehind 7 = .ok (.ireturn, 1) := by decide +kernel
theorem dX2_numbersBehind_8 : decode cX2_numbersBehind 8 = .ok (.iload_n 0, 1) := by decide +kernel
theorem dX2_numbersBehind_9 : decode cX2_numbersBehind 9 = .ok (.bipush 119, 2) := by decide +kernel
theorem dX2_numbersBehind_11 : decode cX2_numbersBehind 11 = .ok (.if_icmp .ne 7, 3) := by decide +kernel
theorem dX2_numbersBehind_14 : decode cX2_numbersBehind 14 = .ok (.iconst 1, 1) := by decide +kernel
theorem dX2_numbersBehind_15 : decode cX2_numbersBehind 15 = .ok (.goto 20, 3) := by decide +kernel
theorem dX2_numbersBehind_18 : decode cX2_numbersBehind 18 = .ok (.iload_n 0, 1) := by decide +kernel
theorem dX2_numbersBehind_19 : decode cX2_numbersBehind 19 = .ok (.bipush 112, 2) := by decide +kernel
theorem dX2_numbersBehind_21 : decode cX2_numbersBehind 21 = .ok (.if_icmp .eq 9, 3) := by decide +kernel
theorem dX2_numbersBehind_24 : decode cX2_numbersBehind 24 = .ok (.iload_n 0, 1) := by decide +kernel
theorem dX2_numbersBehind_25 : decode cX2_numbersBehind 25 = .ok (.bipush 115, 2) := by decide +kernel
theorem dX2_numbersBehind_27 : decode cX2_numbersBehind 27 = .ok (.if_icmp .ne 7, 3) := by decide +kernel
theorem dX2_numbersBehind_30 : decode cX2_numbersBehind 30 = .ok (.iconst 2, 1) := by decide +kernel
theorem dX2_numbersBehind_31 : decode cX2_numbersBehind 31 = .ok (.goto 4, 3) := by decide +kernel
theorem dX2_numbersBehind_34 : decode cX2_numbersBehind 34 = .ok (.iconst 0, 1) := by decide +kernel
theorem dX2_numbersBehind_35 : decode cX2_numbersBehind 35 = .ok (.ireturn, 1) := by decide +kernel
theorem dX2_readNumber_0 : decode cX2_readNumber 0 = .ok (.aload_n 0, 1) := by decide +kernel
theorem dX2_readNumber_1 : decode cX2_readNumber 1 = .ok (.aload_n 0, 1) := by decide +kernel
theorem dX2_readNumber_2 : decode cX2_readNumber 2 = .ok (.getfield 54, 3) := by decide +kernel
theorem dX2_readNumber_5 : decode cX2_readNumber 5 = .ok (.invokevirtual 61, 3) := by decide +kernel
theorem dX2_readNumber_8 : decode cX2_readNumber 8 = .ok (.bipush 48, 2) := by decide +kernel
theorem dX2_readNumber_10 : decode cX2_readNumber 10 = .ok (.isub, 1) := by decide +kernel
theorem dX2_readNumber_11 : decode cX2_readNumber 11 = .ok (.istore_n 1, 1) := by decide +kernel
theorem dX2_readNumber_12 : decode cX2_readNumber 12 = .ok (.iload_n 1, 1) := by decide +kernel
theorem dX2_readNumber_13 : decode cX2_readNumber 13 = .ok (.ifCond .lt 9, 3) := by decide +kernel
theorem dX2_readNumber_16 : decode cX2_readNumber 16 = .ok (.iload_n 1, 1) := by decide +kernel
theorem dX2_readNumber_17 : decode cX2_readNumber 17 = .ok (.bipush 9, 2) := by decide +kernel
theorem dX2_readNumber_19 : decode cX2_readNumber 19 = .ok (.if_icmp .le 5, 3) := by decide +kernel
theorem dX2_readNumber_22 : decode cX2_readNumber 22 = .ok (.iconst (-1), 1) := by decide +kernel
theorem dX2_readNumber_23 : decode cX2_readNumber 23 = .ok (.ireturn, 1) := by decide +kernel
theorem dX2_readNumber_24 : decode cX2_readNumber 24 = .ok (.aload_n 0, 1) := by decide +kernel
theorem dX2_readNumber_25 : decode cX2_readNumber 25 = .ok (.dup, 1) := by decide +kernel
theorem dX2_readNumber_26 : decode cX2_readNumber 26 = .ok (.getfield 54, 3) := by decide +kernel
theorem dX2_readNumber_29 : decode cX2_readNumber 29 = .ok (.iconst 1, 1) := by decide +kernel
theorem dX2_readNumber_30 : decode cX2_readNumber 30 = .ok (.iadd, 1) := by decide +kernel
theorem dX2_readNumber_31 : decode cX2_readNumber 31 = .ok (.putfield 54, 3) := by decide +kernel
theorem dX2_readNumber_34 : decode cX2_readNumber 34 = .ok (.aload_n 0, 1) := by decide +kernel
theorem dX2_readNumber_35 : decode cX2_readNumber 35 = .ok (.aload_n 0, 1) := by decide +kernel
theorem dX2_readNumber_36 : decode cX2_readNumber 36 = .ok (.getfield 54, 3) := by decide +kernel
theorem dX2_readNumber_39 : decode cX2_readNumber 39 = .ok (.invokevirtual 61, 3) := by decide +kernel
theorem dX2_readNumber_42 : decode cX2_readNumber 42 = .ok (.bipush 48, 2) := by decide +kernel
theorem dX2_readNumber_44 : decode cX2_readNumber 44 = .ok (.isub, 1) := by decide +kernel
theorem dX2_readNumber_45 : decode cX2_readNumber 45 = .ok (.istore_n 2, 1) := by decide +kernel
theorem dX2_readNumber_46 : decode cX2_readNumber 46 = .ok (.iload_n 2, 1) := by decide +kernel
theorem dX2_readNumber_47 : decode cX2_readNumber 47 = .ok (.ifCond .lt 9, 3) := by decide +kernel
theorem dX2_readNumber_50 : decode cX2_readNumber 50 = .ok (.iload_n 2, 1) := by decide +kernel
theorem dX2_readNumber_51 : decode cX2_readNumber 51 = .ok (.bipush 9, 2) := by decide +kernel
theorem dX2_readNumber_53 : decode cX2_readNumber 53 = .ok (.if_icmp .le 5, 3) := by decide +kernel
theorem dX2_readNumber_56 : decode cX2_readNumber 56 = .ok (.iload_n 1, 1) := by decide +kernel
theorem dX2_readNumber_57 : decode cX2_readNumber 57 = .ok (.ireturn, 1) := by decide +kernel
theorem dX2_readNumber_58 : decode cX2_readNumber 58 = .ok (.aload_n 0, 1) := by decide +kernel
theorem dX2_readNumber_59 : decode cX2_readNumber 59 = .ok (.dup, 1) := by decide +kernel
theorem dX2_readNumber_60 : decode cX2_readNumber 60 = .ok (.getfield 54, 3) := by decide +kernel
theorem dX2_readNumber_63 : decode cX2_readNumber 63 = .ok (.iconst 1, 1) := by decide +kernel
theorem dX2_readNumber_64 : decode cX2_readNumber 64 = .ok (.iadd, 1) := by decide +kernel
theorem dX2_readNumber_65 : decode cX2_readNumber 65 = .ok (.putfield 54, 3) := by decide +kernel
theorem dX2_readNumber_68 : decode cX2_readNumber 68 = .ok (.bipush 10, 2) := by decide +kernel
theorem dX2_readNumber_70 : decode cX2_readNumber 70 = .ok (.iload_n 1, 1) := by decide +kernel
theorem dX2_readNumber_71 : decode cX2_readNumber 71 = .ok (.imul, 1) := by decide +kernel
theorem dX2_readNumber_72 : decode cX2_readNumber 72 = .ok (.iload_n 2, 1) := by decide +kernel
theorem dX2_readNumber_73 : decode cX2_readNumber 73 = .ok (.iadd, 1) := by decide +kernel
theorem dX2_readNumber_74 : decode cX2_readNumber 74 = .ok (.ireturn, 1) := by decide +kernel
theorem dX2_letterAt_0 : decode cX2_letterAt 0 = .ok (.iload_n 1, 1) := by decide +kernel
theorem dX2_letterAt_1 : decode cX2_letterAt 1 = .ok (.ifCond .lt 27, 3) := by decide +kernel
theorem dX2_letterAt_4 : decode cX2_letterAt 4 = .ok (.iload_n 1, 1) := by decide +kernel
theorem dX2_letterAt_5 : decode cX2_letterAt 5 = .ok (.aload_n 0, 1) := by decide +kernel
theorem dX2_letterAt_6 : decode cX2_letterAt 6 = .ok (.getfield 33, 3) := by decide +kernel
theorem dX2_letterAt_9 : decode cX2_letterAt 9 = .ok (.if_icmp .ge 19, 3) := by decide +kernel
theorem dX2_letterAt_12 : decode cX2_letterAt 12 = .ok (.iload_n 1, 1) := by decide +kernel
theorem dX2_letterAt_13 : decode cX2_letterAt 13 = .ok (.sipush 200, 3) := by decide +kernel
theorem dX2_letterAt_16 : decode cX2_letterAt 16 = .ok (.if_icmp .ge 12, 3) := by decide +kernel
theorem dX2_letterAt_19 : decode cX2_letterAt 19 = .ok (.aload_n 0, 1) := by decide +kernel
theorem dX2_letterAt_20 : decode cX2_letterAt 20 = .ok (.getfield 9, 3) := by decide +kernel
theorem dX2_letterAt_23 : decode cX2_letterAt 23 = .ok (.iload_n 1, 1) := by decide +kernel
theorem dX2_letterAt_24 : decode cX2_letterAt 24 = .ok (.caload, 1) := by decide +kernel
theorem dX2_letterAt_25 : decode cX2_letterAt 25 = .ok (.goto 5, 3) := by decide +kernel
theorem dX2_letterAt_28 : decode cX2_letterAt 28 = .ok (.bipush 32, 2) := by decide +kernel
theorem dX2_letterAt_30 : decode cX2_letterAt 30 = .ok (.ireturn, 1) := by decide +kernel
theorem dX2_heed_0 : decode cX2_heed 0 = .ok (.iload_n 1, 1) := by decide +kernel
theorem dX2_heed_1 : decode cX2_heed 1 = .ok (.bipush 112, 2) := by decide +kernel
theorem dX2_heed_3 : decode cX2_heed 3 = .ok (.if_icmp .ne 23, 3) := by decide +kernel
theorem dX2_heed_6 : decode cX2_heed 6 = .ok (.aload_n 0, 1) := by decide +kernel
theorem dX2_heed_7 : decode cX2_heed 7 = .ok (.getfield 22, 3) := by decide +kernel
theorem dX2_heed_10 : decode cX2_heed 10 = .ok (.aload_n 0, 1) := by decide +kernel
theorem dX2_heed_11 : decode cX2_heed 11 = .ok (.getfield 15, 3) := by decide +kernel
theorem dX2_heed_14 : decode cX2_heed 14 = .ok (.iconst 0, 1) := by decide +kernel
theorem dX2_heed_15 : decode cX2_heed 15 = .ok (.iaload, 1) := by decide +kernel
theorem dX2_heed_16 : decode cX2_heed 16 = .ok (.aload_n 0, 1) := by decide +kernel
theorem dX2_heed_17 : decode cX2_heed 17 = .ok (.getfield 15, 3) := by decide +kernel
theorem dX2_heed_20 : decode cX2_heed 20 = .ok (.iconst 1, 1) := by decide +kernel
theorem dX2_heed_21 : decode cX2_heed 21 = .ok (.iaload, 1) := by decide +kernel
theorem dX2_heed_22 : decode cX2_heed 22 = .ok (.invokevirtual 74, 3) := by decide +kernel
theorem dX2_heed_25 : decode cX2_heed 25 = .ok (.ireturn, 1) := by decide +kernel
theorem dX2_heed_26 : decode cX2_heed 26 = .ok (.iload_n 1, 1) := by decide +kernel
theorem dX2_heed_27 : decode cX2_heed 27 = .ok (.bipush 115, 2) := by decide +kernel
theorem dX2_heed_29 : decode cX2_heed 29 = .ok (.if_icmp .ne 20, 3) := by decide +kernel
theorem dX2_heed_32 : decode cX2_heed 32 = .ok (.aload_n 0, 1) := by decide +kernel
theorem dX2_heed_33 : decode cX2_heed 33 = .ok (.aload_n 0, 1) := by decide +kernel
theorem dX2_heed_34 : decode cX2_heed 34 = .ok (.getfield 15, 3) := by decide +kernel
theorem dX2_heed_37 : decode cX2_heed 37 = .ok (.iconst 0, 1) := by decide +kernel
theorem dX2_heed_38 : decode cX2_heed 38 = .ok (.iaload, 1) := by decide +kernel
theorem dX2_heed_39 : decode cX2_heed 39 = .ok (.aload_n 0, 1) := by decide +kernel
theorem dX2_heed_40 : decode cX2_heed 40 = .ok (.getfield 15, 3) := by decide +kernel
theorem dX2_heed_43 : decode cX2_heed 43 = .ok (.iconst 1, 1) := by decide +kernel
theorem dX2_heed_44 : decode cX2_heed 44 = .ok (.iaload, 1) := by decide +kernel
theorem dX2_heed_45 : decode cX2_heed 45 = .ok (.invokevirtual 78, 3) := by decide +kernel
theorem dX2_heed_48 : decode cX2_heed 48 = .ok (.ireturn, 1) := by decide +kernel
theorem dX2_heed_49 : decode cX2_heed 49 = .ok (.iload_n 1, 1) := by decide +kernel
theorem dX2_heed_50 : decode cX2_heed 50 = .ok (.bipush 111, 2) := by decide +kernel
theorem dX2_heed_52 : decode cX2_heed 52 = .ok (.if_icmp .ne 26, 3) := by decide +kernel
theorem dX2_heed_55 : decode cX2_heed 55 = .ok (.aload_n 0, 1) := by decide +kernel
theorem dX2_heed_56 : decode cX2_heed 56 = .ok (.aload_n 0, 1) := by decide +kernel
theorem dX2_heed_57 : decode cX2_heed 57 = .ok (.getfield 15, 3) := by decide +kernel
theorem dX2_heed_60 : decode cX2_heed 60 = .ok (.iconst 0, 1) := by decide +kernel
theorem dX2_heed_61 : decode cX2_heed 61 = .ok (.iaload, 1) := by decide +kernel
theorem dX2_heed_62 : decode cX2_heed 62 = .ok (.aload_n 0, 1) := by decide +kernel
theorem dX2_heed_63 : decode cX2_heed 63 = .ok (.getfield 15, 3) := by decide +kernel
theorem dX2_heed_66 : decode cX2_heed 66 = .ok (.iconst 1, 1) := by decide +kernel
theorem dX2_heed_67 : decode cX2_heed 67 = .ok (.iaload, 1) := by decide +kernel
theorem dX2_heed_68 : decode cX2_heed 68 = .ok (.aload_n 0, 1) := by decide +kernel
theorem dX2_heed_69 : decode cX2_heed 69 = .ok (.getfield 15, 3) := by decide +kernel
theorem dX2_heed_72 : decode cX2_heed 72 = .ok (.iconst 2, 1) := by decide +kernel
theorem dX2_heed_73 : decode cX2_heed 73 = .ok (.iaload, 1) := by decide +kernel
theorem dX2_heed_74 : decode cX2_heed 74 = .ok (.invokevirtual 81, 3) := by decide +kernel
theorem dX2_heed_77 : decode cX2_heed 77 = .ok (.ireturn, 1) := by decide +kernel
theorem dX2_heed_78 : decode cX2_heed 78 = .ok (.iload_n 1, 1) := by decide +kernel
theorem dX2_heed_79 : decode cX2_heed 79 = .ok (.bipush 119, 2) := by decide +kernel
theorem dX2_heed_81 : decode cX2_heed 81 = .ok (.if_icmp .ne 23, 3) := by decide +kernel
theorem dX2_heed_84 : decode cX2_heed 84 = .ok (.aload_n 0, 1) := by decide +kernel
theorem dX2_heed_85 : decode cX2_heed 85 = .ok (.getfield 22, 3) := by decide +kernel
theorem dX2_heed_88 : decode cX2_heed 88 = .ok (.aload_n 0, 1) := by decide +kernel
theorem dX2_heed_89 : decode cX2_heed 89 = .ok (.getfield 15, 3) := by decide +kernel
theorem dX2_heed_92 : decode cX2_heed 92 = .ok (.iconst 0, 1) := by decide +kernel
theorem dX2_heed_93 : decode cX2_heed 93 = .ok (.iaload, 1) := by decide +kernel
theorem dX2_heed_94 : decode cX2_heed 94 = .ok (.invokevirtual 85, 3) := by decide +kernel
theorem dX2_heed_97 : decode cX2_heed 97 = .ok (.ifCond .eq 7, 3) := by decide +kernel
theorem dX2_heed_100 : decode cX2_heed 100 = .ok (.iconst 1, 1) := by decide +kernel
theorem dX2_heed_101 : decode cX2_heed 101 = .ok (.goto 4, 3) := by decide +kernel
theorem dX2_heed_104 : decode cX2_heed 104 = .ok (.iconst 0, 1) := by decide +kernel
theorem dX2_heed_105 : decode cX2_heed 105 = .ok (.ireturn, 1) := by decide +kernel
theorem dX2_tellStore_0 : decode cX2_tellStore 0 = .ok (.iload_n 1, 1) := by decide +kernel
theorem dX2_tellStore_1 : decode cX2_tellStore 1 = .ok (.invokestatic 89, 3) := by decide +kernel
theorem dX2_tellStore_4 : decode cX2_tellStore 4 = .ok (.ifCond .eq 13, 3) := by decide +kernel
theorem dX2_tellStore_7 : decode cX2_tellStore 7 = .ok (.iload_n 2, 1) := by decide +kernel
theorem dX2_tellStore_8 : decode cX2_tellStore 8 = .ok (.ifCond .lt 9, 3) := by decide +kernel
theorem dX2_tellStore_11 : decode cX2_tellStore 11 = .ok (.iload_n 2, 1) := by decide +kernel
theorem dX2_tellStore_12 : decode cX2_tellStore 12 = .ok (.bipush 9, 2) := by decide +kernel
theorem dX2_tellStore_14 : decode cX2_tellStore 14 = .ok (.if_icmp .le 5, 3) := by decide +kernel
theorem dX2_tellStore_17 : decode cX2_tellStore 17 = .ok (.iconst 0, 1) := by decide +kernel
theorem dX2_tellStore_18 : decode cX2_tellStore 18 = .ok (.ireturn, 1) := by decide +kernel
theorem dX2_tellStore_19 : decode cX2_tellStore 19 = .ok (.aload_n 0, 1) := by decide +kernel
theorem dX2_tellStore_20 : decode cX2_tellStore 20 = .ok (.getfield 29, 3) := by decide +kernel
theorem dX2_tellStore_23 : decode cX2_tellStore 23 = .ok (.iload_n 1, 1) := by decide +kernel
theorem dX2_tellStore_24 : decode cX2_tellStore 24 = .ok (.iload_n 2, 1) := by decide +kernel
theorem dX2_tellStore_25 : decode cX2_tellStore 25 = .ok (.invokevirtual 92, 3) := by decide +kernel
theorem dX2_tellStore_28 : decode cX2_tellStore 28 = .ok (.iconst 1, 1) := by decide +kernel
theorem dX2_tellStore_29 : decode cX2_tellStore 29 = .ok (.ireturn, 1) := by decide +kernel
theorem dX2_tellOn_0 : decode cX2_tellOn 0 = .ok (.aload_n 0, 1) := by decide +kernel
theorem dX2_tellOn_1 : decode cX2_tellOn 1 = .ok (.getfield 22, 3) := by decide +kernel
theorem dX2_tellOn_4 : decode cX2_tellOn 4 = .ok (.iload_n 1, 1) := by decide +kernel
theorem dX2_tellOn_5 : decode cX2_tellOn 5 = .ok (.invokevirtual 96, 3) := by decide +kernel
theorem dX2_tellOn_8 : decode cX2_tellOn 8 = .ok (.ifCond .eq 17, 3) := by decide +kernel
theorem dX2_tellOn_11 : decode cX2_tellOn 11 = .ok (.iload_n 2, 1) := by decide +kernel
theorem dX2_tellOn_12 : decode cX2_tellOn 12 = .ok (.invokestatic 89, 3) := by decide +kernel
theorem dX2_tellOn_15 : decode cX2_tellOn 15 = .ok (.ifCond .eq 10, 3) := by decide +kernel
theorem dX2_tellOn_18 : decode cX2_tellOn 18 = .ok (.iload_n 3, 1) := by decide +kernel
theorem dX2_tellOn_19 : decode cX2_tellOn 19 = .ok (.invokestatic 99, 3) := by decide +kernel
theorem dX2_tellOn_22 : decode cX2_tellOn 22 = .ok (.ifCond .ne 5, 3) := by decide +kernel
theorem dX2_tellOn_25 : decode cX2_tellOn 25 = .ok (.iconst 0, 1) := by decide +kernel
theorem dX2_tellOn_26 : decode cX2_tellOn 26 = .ok (.ireturn, 1) := by decide +kernel
theorem dX2_tellOn_27 : decode cX2_tellOn 27 = .ok (.aload_n 0, 1) := by decide +kernel
theorem dX2_tellOn_28 : decode cX2_tellOn 28 = .ok (.getfield 29, 3) := by decide +kernel
theorem dX2_tellOn_31 : decode cX2_tellOn 31 = .ok (.iload_n 1, 1) := by decide +kernel
theorem dX2_tellOn_32 : decode cX2_tellOn 32 = .ok (.iload_n 2, 1) := by decide +kernel
theorem dX2_tellOn_33 : decode cX2_tellOn 33 = .ok (.iload_n 3, 1) := by decide +kernel
theorem dX2_tellOn_34 : decode cX2_tellOn 34 = .ok (.invokevirtual 102, 3) := by decide +kernel
theorem dX2_tellOn_37 : decode cX2_tellOn 37 = .ok (.iconst 1, 1) := by decide +kernel
theorem dX2_tellOn_38 : decode cX2_tellOn 38 = .ok (.ireturn, 1) := by decide +kernel
theorem dX3_init_0 : decode cX3_init 0 = .ok (.aload_n 0, 1) := by decide +kernel
theorem dX3_init_1 : decode cX3_init 1 = .ok (.invokespecial 3, 3) := by decide +kernel
theorem dX3_init_4 : decode cX3_init 4 = .ok (.aload_n 0, 1) := by decide +kernel
theorem dX3_init_5 : decode cX3_init 5 = .ok (.bipush 42, 2) := by decide +kernel
theorem dX3_init_7 : decode cX3_init 7 = .ok (.newarray .int, 2) := by decide +kernel
theorem dX3_init_9 : decode cX3_init 9 = .ok (.putfield 9, 3) := by decide +kernel
theorem dX3_init_12 : decode cX3_init 12 = .ok (.return_, 1) := by decide +kernel
theorem dX3_clear_0 : decode cX3_clear 0 = .ok (.aload_n 0, 1) := by decide +kernel
theorem dX3_clear_1 : decode cX3_clear 1 = .ok (.getfield 9, 3) := by decide +kernel
theorem dX3_clear_4 : decode cX3_clear 4 = .ok (.iconst 0, 1) := by decide +kernel
theorem dX3_clear_5 : decode cX3_clear 5 = .ok (.invokestatic 15, 3) := by decide +kernel
theorem dX3_clear_8 : decode cX3_clear 8 = .ok (.aload_n 0, 1) := by decide +kernel
theorem dX3_clear_9 : decode cX3_clear 9 = .ok (.getfield 9, 3) := by decide +kernel
theorem dX3_clear_12 : decode cX3_clear 12 = .ok (.bipush 30, 2) := by decide +kernel
theorem dX3_clear_14 : decode cX3_clear 14 = .ok (.bipush 35, 2) := by decide +kernel
theorem dX3_clear_16 : decode cX3_clear 16 = .ok (.iconst 2, 1) := by decide +kernel
theorem dX3_clear_17 : decode cX3_clear 17 = .ok (.invokestatic 21, 3) := by decide +kernel
theorem dX3_clear_20 : decode cX3_clear 20 = .ok (.return_, 1) := by decide +kernel
theorem dX3_become_0 : decode cX3_become 0 = .ok (.aload_n 1, 1) := by decide +kernel
theorem dX3_become_1 : decode cX3_become 1 = .ok (.getfield 9, 3) := by decide +kernel
theorem dX3_become_4 : decode cX3_become 4 = .ok (.iconst 0, 1) := by decide +kernel
theorem dX3_become_5 : decode cX3_become 5 = .ok (.aload_n 0, 1) := by decide +kernel
theorem dX3_become_6 : decode cX3_become 6 = .ok (.getfield 9, 3) := by decide +kernel
theorem dX3_become_9 : decode cX3_become 9 = .ok (.iconst 0, 1) := by decide +kernel
theorem dX3_become_10 : decode cX3_become 10 = .ok (.bipush 42, 2) := by decide +kernel
theorem dX3_become_12 : decode cX3_become 12 = .ok (.invokestatic 24, 3) := by decide +kernel
theorem dX3_become_15 : decode cX3_become 15 = .ok (.return_, 1) := by decide +kernel
theorem dX3_pinsOn_0 : decode cX3_pinsOn 0 = .ok (.iload_n 1, 1) := by decide +kernel
theorem dX3_pinsOn_1 : decode cX3_pinsOn 1 = .ok (.iconst 5, 1) := by decide +kernel
theorem dX3_pinsOn_2 : decode cX3_pinsOn 2 = .ok (.imul, 1) := by decide +kernel
theorem dX3_pinsOn_3 : decode cX3_pinsOn 3 = .ok (.iload_n 2, 1) := by decide +kernel
theorem dX3_pinsOn_4 : decode cX3_pinsOn 4 = .ok (.iadd, 1) := by decide +kernel
theorem dX3_pinsOn_5 : decode cX3_pinsOn 5 = .ok (.istore_n 3, 1) := by decide +kernel
theorem dX3_pinsOn_6 : decode cX3_pinsOn 6 = .ok (.iload_n 3, 1) := by decide +kernel
theorem dX3_pinsOn_7 : decode cX3_pinsOn 7 = .ok (.ifCond .lt 18, 3) := by decide +kernel
theorem dX3_pinsOn_10 : decode cX3_pinsOn 10 = .ok (.iload_n 3, 1) := by decide +kernel
theorem dX3_pinsOn_11 : decode cX3_pinsOn 11 = .ok (.bipush 30, 2) := by decide +kernel
theorem dX3_pinsOn_13 : decode cX3_pinsOn 13 = .ok (.if_icmp .ge 12, 3) := by decide +kernel
theorem dX3_pinsOn_16 : decode cX3_pinsOn 16 = .ok (.aload_n 0, 1) := by decide +kernel
theorem dX3_pinsOn_17 : decode cX3_pinsOn 17 = .ok (.getfield 9, 3) := by decide +kernel
theorem dX3_pinsOn_20 : decode cX3_pinsOn 20 = .ok (.iload_n 3, 1) := by decide +kernel
theorem dX3_pinsOn_21 : decode cX3_pinsOn 21 = .ok (.iaload, 1) := by decide +kernel
theorem dX3_pinsOn_22 : decode cX3_pinsOn 22 = .ok (.goto 4, 3) := by decide +kernel
theorem dX3_pinsOn_25 : decode cX3_pinsOn 25 = .ok (.iconst 0, 1) := by decide +kernel
theorem dX3_pinsOn_26 : decode cX3_pinsOn 26 = .ok (.ireturn, 1) := by decide +kernel
theorem dX3_setPins_0 : decode cX3_setPins 0 = .ok (.iload_n 1, 1) := by decide +kernel
theorem dX3_setPins_1 : decode cX3_setPins 1 = .ok (.iconst 5, 1) := by decide +kernel
theorem dX3_setPins_2 : decode cX3_setPins 2 = .ok (.imul, 1) := by decide +kernel
theorem dX3_setPins_3 : decode cX3_setPins 3 = .ok (.iload_n 2, 1) := by decide +kernel
theorem dX3_setPins_4 : decode cX3_setPins 4 = .ok (.iadd, 1) := by decide +kernel
theorem dX3_setPins_5 : decode cX3_setPins 5 = .ok (.istore 4, 2) := by decide +kernel
theorem dX3_setPins_7 : decode cX3_setPins 7 = .ok (.iload 4, 2) := by decide +kernel
theorem dX3_setPins_9 : decode cX3_setPins 9 = .ok (.ifCond .lt 18, 3) := by decide +kernel
theorem dX3_setPins_12 : decode cX3_setPins 12 = .ok (.iload 4, 2) := by decide +kernel
theorem dX3_setPins_14 : decode cX3_setPins 14 = .ok (.bipush 30, 2) := by decide +kernel
theorem dX3_setPins_16 : decode cX3_setPins 16 = .ok (.if_icmp .ge 11, 3) := by decide +kernel
theorem dX3_setPins_19 : decode cX3_setPins 19 = .ok (.aload_n 0, 1) := by decide +kernel
theorem dX3_setPins_20 : decode cX3_setPins 20 = .ok (.getfield 9, 3) := by decide +kernel
theorem dX3_setPins_23 : decode cX3_setPins 23 = .ok (.iload 4, 2) := by decide +kernel
theorem dX3_setPins_25 : decode cX3_setPins 25 = .ok (.iload_n 3, 1) := by decide +kernel
theorem dX3_setPins_26 : decode cX3_setPins 26 = .ok (.iastore, 1) := by decide +kernel
theorem dX3_setPins_27 : decode cX3_setPins 27 = .ok (.return_, 1) := by decide +kernel
theorem dX3_isOn_0 : decode cX3_isOn 0 = .ok (.aload_n 0, 1) := by decide +kernel
theorem dX3_isOn_1 : decode cX3_isOn 1 = .ok (.iload_n 1, 1) := by decide +kernel
theorem dX3_isOn_2 : decode cX3_isOn 2 = .ok (.iload_n 2, 1) := by decide +kernel
theorem dX3_isOn_3 : decode cX3_isOn 3 = .ok (.invokevirtual 30, 3) := by decide +kernel
theorem dX3_isOn_6 : decode cX3_isOn 6 = .ok (.ifCond .le 7, 3) := by decide +kernel
theorem dX3_isOn_9 : decode cX3_isOn 9 = .ok (.iconst 1, 1) := by decide +kernel
theorem dX3_isOn_10 : decode cX3_isOn 10 = .ok (.goto 4, 3) := by decide +kernel
theorem dX3_isOn_13 : decode cX3_isOn 13 = .ok (.iconst 0, 1) := by decide +kernel
theorem dX3_isOn_14 : decode cX3_isOn 14 = .ok (.ireturn, 1) := by decide +kernel
theorem dX3_looksOf_0 : decode cX3_looksOf 0 = .ok (.iconst 0, 1) := by decide +kernel
theorem dX3_looksOf_1 : decode cX3_looksOf 1 = .ok (.istore_n 2, 1) := by decide +kernel
theorem dX3_looksOf_2 : decode cX3_looksOf 2 = .ok (.iconst 0, 1) := by decide +kernel
theorem dX3_looksOf_3 : decode cX3_looksOf 3 = .ok (.istore_n 3, 1) := by decide +kernel
theorem dX3_looksOf_4 : decode cX3_looksOf 4 = .ok (.iload_n 3, 1) := by decide +kernel
theorem dX3_looksOf_5 : decode cX3_looksOf 5 = .ok (.iconst 5, 1) := by decide +kernel
theorem dX3_looksOf_6 : decode cX3_looksOf 6 = .ok (.if_icmp .ge 24, 3) := by decide +kernel
theorem dX3_looksOf_9 : decode cX3_looksOf 9 = .ok (.aload_n 0, 1) := by decide +kernel
theorem dX3_looksOf_10 : decode cX3_looksOf 10 = .ok (.iload_n 1, 1) := by decide +kernel
theorem dX3_looksOf_11 : decode cX3_looksOf 11 = .ok (.iload_n 3, 1) := by decide +kernel
theorem dX3_looksOf_12 : decode cX3_looksOf 12 = .ok (.invokevirtual 34, 3) := by decide +kernel
theorem dX3_looksOf_15 : decode cX3_looksOf 15 = .ok (.ifCond .eq 9, 3) := by decide +kernel
theorem dX3_looksOf_18 : decode cX3_looksOf 18 = .ok (.iload_n 2, 1) := by decide +kernel
theorem dX3_looksOf_19 : decode cX3_looksOf 19 = .ok (.iconst 1, 1) := by decide +kernel
theorem dX3_looksOf_20 : decode cX3_looksOf 20 = .ok (.iload_n 3, 1) := by decide +kernel
theorem dX3_looksOf_21 : decode cX3_looksOf 21 = .ok (.ishl, 1) := by decide +kernel
theorem dX3_looksOf_22 : decode cX3_looksOf 22 = .ok (.ior, 1) := by decide +kernel
theorem dX3_looksOf_23 : decode cX3_looksOf 23 = .ok (.istore_n 2, 1) := by decide +kernel
theorem dX3_looksOf_24 : decode cX3_looksOf 24 = .ok (.iinc 3 1, 3) := by decide +kernel
theorem dX3_looksOf_27 : decode cX3_looksOf 27 = .ok (.goto (-23), 3) := by decide +kernel
theorem dX3_looksOf_30 : decode cX3_looksOf 30 = .ok (.iload_n 2, 1) := by decide +kernel
theorem dX3_looksOf_31 : decode cX3_looksOf 31 = .ok (.ireturn, 1) := by decide +kernel
theorem dX3_inStore_0 : decode cX3_inStore 0 = .ok (.iload_n 1, 1) := by decide +kernel
theorem dX3_inStore_1 : decode cX3_inStore 1 = .ok (.invokestatic 38, 3) := by decide +kernel
theorem dX3_inStore_4 : decode cX3_inStore 4 = .ok (.ifCond .eq 15, 3) := by decide +kernel
theorem dX3_inStore_7 : decode cX3_inStore 7 = .ok (.aload_n 0, 1) := by decide +kernel
theorem dX3_inStore_8 : decode cX3_inStore 8 = .ok (.getfield 9, 3) := by decide +kernel
theorem dX3_inStore_11 : decode cX3_inStore 11 = .ok (.bipush 30, 2) := by decide +kernel
theorem dX3_inStore_13 : decode cX3_inStore 13 = .ok (.iload_n 1, 1) := by decide +kernel
theorem dX3_inStore_14 : decode cX3_inStore 14 = .ok (.iadd, 1) := by decide +kernel
theorem dX3_inStore_15 : decode cX3_inStore 15 = .ok (.iaload, 1) := by decide +kernel
theorem dX3_inStore_16 : decode cX3_inStore 16 = .ok (.goto 4, 3) := by decide +kernel
theorem dX3_inStore_19 : decode cX3_inStore 19 = .ok (.iconst 0, 1) := by decide +kernel
theorem dX3_inStore_20 : decode cX3_inStore 20 = .ok (.ireturn, 1) := by decide +kernel
theorem dX3_setStore_0 : decode cX3_setStore 0 = .ok (.iload_n 1, 1) := by decide +kernel
theorem dX3_setStore_1 : decode cX3_setStore 1 = .ok (.invokestatic 38, 3) := by decide +kernel
theorem dX3_setStore_4 : decode cX3_setStore 4 = .ok (.ifCond .eq 13, 3) := by decide +kernel
theorem dX3_setStore_7 : decode cX3_setStore 7 = .ok (.aload_n 0, 1) := by decide +kernel
theorem dX3_setStore_8 : decode cX3_setStore 8 = .ok (.getfield 9, 3) := by decide +kernel
theorem dX3_setStore_11 : decode cX3_setStore 11 = .ok (.bipush 30, 2) := by decide +kernel
theorem dX3_setStore_13 : decode cX3_setStore 13 = .ok (.iload_n 1, 1) := by decide +kernel
theorem dX3_setStore_14 : decode cX3_setStore 14 = .ok (.iadd, 1) := by decide +kernel
theorem dX3_setStore_15 : decode cX3_setStore 15 = .ok (.iload_n 2, 1) := by decide +kernel
theorem dX3_setStore_16 : decode cX3_setStore 16 = .ok (.iastore, 1) := by decide +kernel
theorem dX3_setStore_17 : decode cX3_setStore 17 = .ok (.return_, 1) := by decide +kernel
theorem dX3_guideOf_0 : decode cX3_guideOf 0 = .ok (.iload_n 1, 1) := by decide +kernel
theorem dX3_guideOf_1 : decode cX3_guideOf 1 = .ok (.ifCond .lt 21, 3) := by decide +kernel
theorem dX3_guideOf_4 : decode cX3_guideOf 4 = .ok (.iload_n 1, 1) := by decide +kernel
theorem dX3_guideOf_5 : decode cX3_guideOf 5 = .ok (.bipush 6, 2) := by decide +kernel
theorem dX3_guideOf_7 : decode cX3_guideOf 7 = .ok (.if_icmp .ge 15, 3) := by decide +kernel
theorem dX3_guideOf_10 : decode cX3_guideOf 10 = .ok (.aload_n 0, 1) := by decide +kernel
theorem dX3_guideOf_11 : decode cX3_guideOf 11 = .ok (.getfield 9, 3) := by decide +kernel
theorem dX3_guideOf_14 : decode cX3_guideOf 14 = .ok (.bipush 35, 2) := by decide +kernel
theorem dX3_guideOf_16 : decode cX3_guideOf 16 = .ok (.iload_n 1, 1) := by decide +kernel
theorem dX3_guideOf_17 : decode cX3_guideOf 17 = .ok (.iadd, 1) := by decide +kernel
theorem dX3_guideOf_18 : decode cX3_guideOf 18 = .ok (.iaload, 1) := by decide +kernel
theorem dX3_guideOf_19 : decode cX3_guideOf 19 = .ok (.goto 4, 3) := by decide +kernel
theorem dX3_guideOf_22 : decode cX3_guideOf 22 = .ok (.iconst 0, 1) := by decide +kernel
theorem dX3_guideOf_23 : decode cX3_guideOf 23 = .ok (.ireturn, 1) := by decide +kernel
theorem dX3_makeGuides_0 : decode cX3_makeGuides 0 = .ok (.iconst 0, 1) := by decide +kernel
theorem dX3_makeGuides_1 : decode cX3_makeGuides 1 = .ok (.istore_n 1, 1) := by decide +kernel
theorem dX3_makeGuides_2 : decode cX3_makeGuides 2 = .ok (.iload_n 1, 1) := by decide +kernel
theorem dX3_makeGuides_3 : decode cX3_makeGuides 3 = .ok (.bipush 6, 2) := by decide +kernel
theorem dX3_makeGuides_5 : decode cX3_makeGuides 5 = .ok (.if_icmp .ge 23, 3) := by decide +kernel
theorem dX3_makeGuides_8 : decode cX3_makeGuides 8 = .ok (.aload_n 0, 1) := by decide +kernel
theorem dX3_makeGuides_9 : decode cX3_makeGuides 9 = .ok (.getfield 9, 3) := by decide +kernel
theorem dX3_makeGuides_12 : decode cX3_makeGuides 12 = .ok (.bipush 35, 2) := by decide +kernel
theorem dX3_makeGuides_14 : decode cX3_makeGuides 14 = .ok (.iload_n 1, 1) := by decide +kernel
theorem dX3_makeGuides_15 : decode cX3_makeGuides 15 = .ok (.iadd, 1) := by decide +kernel
theorem dX3_makeGuides_16 : decode cX3_makeGuides 16 = .ok (.aload_n 0, 1) := by decide +kernel
theorem dX3_makeGuides_17 : decode cX3_makeGuides 17 = .ok (.iload_n 1, 1) := by decide +kernel
theorem dX3_makeGuides_18 : decode cX3_makeGuides 18 = .ok (.invokevirtual 42, 3) := by decide +kernel
theorem dX3_makeGuides_21 : decode cX3_makeGuides 21 = .ok (.iastore, 1) := by decide +kernel
theorem dX3_makeGuides_22 : decode cX3_makeGuides 22 = .ok (.iinc 1 1, 3) := by decide +kernel
theorem dX3_makeGuides_25 : decode cX3_makeGuides 25 = .ok (.goto (-23), 3) := by decide +kernel
theorem dX3_makeGuides_28 : decode cX3_makeGuides 28 = .ok (.return_, 1) := by decide +kernel
theorem dX3_yearNow_0 : decode cX3_yearNow 0 = .ok (.aload_n 0, 1) := by decide +kernel
theorem dX3_yearNow_1 : decode cX3_yearNow 1 = .ok (.getfield 9, 3) := by decide +kernel
theorem dX3_yearNow_4 : decode cX3_yearNow 4 = .ok (.bipush 41, 2) := by decide +kernel
theorem dX3_yearNow_6 : decode cX3_yearNow 6 = .ok (.iaload, 1) := by decide +kernel
theorem dX3_yearNow_7 : decode cX3_yearNow 7 = .ok (.ireturn, 1) := by decide +kernel
theorem dX3_canPut_0 : decode cX3_canPut 0 = .ok (.aload_n 0, 1) := by decide +kernel
theorem dX3_canPut_1 : decode cX3_canPut 1 = .ok (.iload_n 1, 1) := by decide +kernel
theorem dX3_canPut_2 : decode cX3_canPut 2 = .ok (.iload_n 2, 1) := by decide +kernel
theorem dX3_canPut_3 : decode cX3_canPut 3 = .ok (.invokevirtual 30, 3) := by decide +kernel
theorem dX3_canPut_6 : decode cX3_canPut 6 = .ok (.ifCond .ne 15, 3) := by decide +kernel
theorem dX3_canPut_9 : decode cX3_canPut 9 = .ok (.aload_n 0, 1) := by decide +kernel
theorem dX3_canPut_10 : decode cX3_canPut 10 = .ok (.iload_n 2, 1) := by decide +kernel
theorem dX3_canPut_11 : decode cX3_canPut 11 = .ok (.invokevirtual 46, 3) := by decide +kernel
theorem dX3_canPut_14 : decode cX3_canPut 14 = .ok (.ifCond .le 7, 3) := by decide +kernel
theorem dX3_canPut_17 : decode cX3_canPut 17 = .ok (.iconst 1, 1) := by decide +kernel
theorem dX3_canPut_18 : decode cX3_canPut 18 = .ok (.goto 4, 3) := by decide +kernel
theorem dX3_canPut_21 : decode cX3_canPut 21 = .ok (.iconst 0, 1) := by decide +kernel
theorem dX3_canPut_22 : decode cX3_canPut 22 = .ok (.ireturn, 1) := by decide +kernel
theorem dX3_putOn_0 : decode cX3_putOn 0 = .ok (.aload_n 0, 1) := by decide +kernel
theorem dX3_putOn_1 : decode cX3_putOn 1 = .ok (.iload_n 1, 1) := by decide +kernel
theorem dX3_putOn_2 : decode cX3_putOn 2 = .ok (.iload_n 2, 1) := by decide +kernel
theorem dX3_putOn_3 : decode cX3_putOn 3 = .ok (.iload_n 3, 1) := by decide +kernel
theorem dX3_putOn_4 : decode cX3_putOn 4 = .ok (.invokevirtual 49, 3) := by decide +kernel
theorem dX3_putOn_7 : decode cX3_putOn 7 = .ok (.aload_n 0, 1) := by decide +kernel
theorem dX3_putOn_8 : decode cX3_putOn 8 = .ok (.iload_n 2, 1) := by decide +kernel
theorem dX3_putOn_9 : decode cX3_putOn 9 = .ok (.aload_n 0, 1) := by decide +kernel
theorem dX3_putOn_10 : decode cX3_putOn 10 = .ok (.iload_n 2, 1) := by decide +kernel
theorem dX3_putOn_11 : decode cX3_putOn 11 = .ok (.invokevirtual 46, 3) := by decide +kernel
theorem dX3_putOn_14 : decode cX3_putOn 14 = .ok (.iconst 1, 1) := by decide +kernel
theorem dX3_putOn_15 : decode cX3_putOn 15 = .ok (.isub, 1) := by decide +kernel
theorem dX3_putOn_16 : decode cX3_putOn 16 = .ok (.invokevirtual 53, 3) := by decide +kernel
theorem dX3_putOn_19 : decode cX3_putOn 19 = .ok (.return_, 1) := by decide +kernel
theorem dX3_takeOff_0 : decode cX3_takeOff 0 = .ok (.aload_n 0, 1) := by decide +kernel
theorem dX3_takeOff_1 : decode cX3_takeOff 1 = .ok (.iload_n 1, 1) := by decide +kernel
theorem dX3_takeOff_2 : decode cX3_takeOff 2 = .ok (.iload_n 2, 1) := by decide +kernel
theorem dX3_takeOff_3 : decode cX3_takeOff 3 = .ok (.iconst 0, 1) := by decide +kernel
theorem dX3_takeOff_4 : decode cX3_takeOff 4 = .ok (.invokevirtual 49, 3) := by decide +kernel
theorem dX3_takeOff_7 : decode cX3_takeOff 7 = .ok (.aload_n 0, 1) := by decide +kernel
theorem dX3_takeOff_8 : decode cX3_takeOff 8 = .ok (.iload_n 2, 1) := by decide +kernel
theorem dX3_takeOff_9 : decode cX3_takeOff 9 = .ok (.aload_n 0, 1) := by decide +kernel
theorem dX3_takeOff_10 : decode cX3_takeOff 10 = .ok (.iload_n 2, 1) := by decide +kernel
theorem dX3_takeOff_11 : decode cX3_takeOff 11 = .ok (.invokevirtual 46, 3) := by decide +kernel
theorem dX3_takeOff_14 : decode cX3_takeOff 14 = .ok (.iconst 1, 1) := by decide +kernel
theorem dX3_takeOff_15 : decode cX3_takeOff 15 = .ok (.iadd, 1) := by decide +kernel
theorem dX3_takeOff_16 : decode cX3_takeOff 16 = .ok (.invokevirtual 53, 3) := by decide +kernel
theorem dX3_takeOff_19 : decode cX3_takeOff 19 = .ok (.return_, 1) := by decide +kernel
theorem dX3_letYearGoBy_0 : decode cX3_letYearGoBy 0 = .ok (.aload_n 0, 1) := by decide +kernel
theorem dX3_letYearGoBy_1 : decode cX3_letYearGoBy 1 = .ok (.invokevirtual 57, 3) := by decide +kernel
theorem dX3_letYearGoBy_4 : decode cX3_letYearGoBy 4 = .ok (.aload_n 1, 1) := by decide +kernel
theorem dX3_letYearGoBy_5 : decode cX3_letYearGoBy 5 = .ok (.aload_n 0, 1) := by decide +kernel
theorem dX3_letYearGoBy_6 : decode cX3_letYearGoBy 6 = .ok (.invokevirtual 60, 3) := by decide +kernel
theorem dX3_letYearGoBy_9 : decode cX3_letYearGoBy 9 = .ok (.invokevirtual 64, 3) := by decide +kernel
theorem dX3_letYearGoBy_12 : decode cX3_letYearGoBy 12 = .ok (.istore_n 2, 1) := by decide +kernel
theorem dX3_letYearGoBy_13 : decode cX3_letYearGoBy 13 = .ok (.iconst 0, 1) := by decide +kernel
theorem dX3_letYearGoBy_14 : decode cX3_letYearGoBy 14 = .ok (.istore_n 3, 1) := by decide +kernel
theorem dX3_letYearGoBy_15 : decode cX3_letYearGoBy 15 = .ok (.iload_n 3, 1) := by decide +kernel
theorem dX3_letYearGoBy_16 : decode cX3_letYearGoBy 16 = .ok (.aload_n 1, 1) := by decide +kernel
theorem dX3_letYearGoBy_17 : decode cX3_letYearGoBy 17 = .ok (.getfield 69, 3) := by decide +kernel
theorem dX3_letYearGoBy_20 : decode cX3_letYearGoBy 20 = .ok (.if_icmp .ge 30, 3) := by decide +kernel
theorem dX3_letYearGoBy_23 : decode cX3_letYearGoBy 23 = .ok (.aload_n 0, 1) := by decide +kernel
theorem dX3_letYearGoBy_24 : decode cX3_letYearGoBy 24 = .ok (.getfield 9, 3) := by decide +kernel
theorem dX3_letYearGoBy_27 : decode cX3_letYearGoBy 27 = .ok (.iload_n 3, 1) := by decide +kernel
theorem dX3_letYearGoBy_28 : decode cX3_letYearGoBy 28 = .ok (.iconst 5, 1) := by decide +kernel
theorem dX3_letYearGoBy_29 : decode cX3_letYearGoBy 29 = .ok (.imul, 1) := by decide +kernel
theorem dX3_letYearGoBy_30 : decode cX3_letYearGoBy 30 = .ok (.aload_n 1, 1) := by decide +kernel
theorem dX3_letYearGoBy_31 : decode cX3_letYearGoBy 31 = .ok (.iload_n 3, 1) := by decide +kernel
theorem dX3_letYearGoBy_32 : decode cX3_letYearGoBy 32 = .ok (.iload_n 2, 1) := by decide +kernel
theorem dX3_letYearGoBy_33 : decode cX3_letYearGoBy 33 = .ok (.invokevirtual 73, 3) := by decide +kernel
theorem dX3_letYearGoBy_36 : decode cX3_letYearGoBy 36 = .ok (.aload_n 1, 1) := by decide +kernel
theorem dX3_letYearGoBy_37 : decode cX3_letYearGoBy 37 = .ok (.iload_n 3, 1) := by decide +kernel
theorem dX3_letYearGoBy_38 : decode cX3_letYearGoBy 38 = .ok (.invokevirtual 76, 3) := by decide +kernel
theorem dX3_letYearGoBy_41 : decode cX3_letYearGoBy 41 = .ok (.invokestatic 79, 3) := by decide +kernel
theorem dX3_letYearGoBy_44 : decode cX3_letYearGoBy 44 = .ok (.iinc 3 1, 3) := by decide +kernel
theorem dX3_letYearGoBy_47 : decode cX3_letYearGoBy 47 = .ok (.goto (-32), 3) := by decide +kernel
theorem dX3_letYearGoBy_50 : decode cX3_letYearGoBy 50 = .ok (.aload_n 0, 1) := by decide +kernel
theorem dX3_letYearGoBy_51 : decode cX3_letYearGoBy 51 = .ok (.getfield 9, 3) := by decide +kernel
theorem dX3_letYearGoBy_54 : decode cX3_letYearGoBy 54 = .ok (.bipush 41, 2) := by decide +kernel
theorem dX3_letYearGoBy_56 : decode cX3_letYearGoBy 56 = .ok (.dup2, 1) := by decide +kernel
theorem dX3_letYearGoBy_57 : decode cX3_letYearGoBy 57 = .ok (.iaload, 1) := by decide +kernel
theorem dX3_letYearGoBy_58 : decode cX3_letYearGoBy 58 = .ok (.iconst 1, 1) := by decide +kernel
theorem dX3_letYearGoBy_59 : decode cX3_letYearGoBy 59 = .ok (.iadd, 1) := by decide +kernel
theorem dX3_letYearGoBy_60 : decode cX3_letYearGoBy 60 = .ok (.iastore, 1) := by decide +kernel
theorem dX3_letYearGoBy_61 : decode cX3_letYearGoBy 61 = .ok (.return_, 1) := by decide +kernel
theorem dX3_trimmingsOn_0 : decode cX3_trimmingsOn 0 = .ok (.iconst 0, 1) := by decide +kernel
theorem dX3_trimmingsOn_1 : decode cX3_trimmingsOn 1 = .ok (.istore_n 1, 1) := by decide +kernel
theorem dX3_trimmingsOn_2 : decode cX3_trimmingsOn 2 = .ok (.iconst 0, 1) := by decide +kernel
theorem dX3_trimmingsOn_3 : decode cX3_trimmingsOn 3 = .ok (.istore_n 2, 1) := by decide +kernel
theorem dX3_trimmingsOn_4 : decode cX3_trimmingsOn 4 = .ok (.iload_n 2, 1) := by decide +kernel
theorem dX3_trimmingsOn_5 : decode cX3_trimmingsOn 5 = .ok (.bipush 6, 2) := by decide +kernel
theorem dX3_trimmingsOn_7 : decode cX3_trimmingsOn 7 = .ok (.if_icmp .ge 20, 3) := by decide +kernel
theorem dX3_trimmingsOn_10 : decode cX3_trimmingsOn 10 = .ok (.iload_n 1, 1) := by decide +kernel
theorem dX3_trimmingsOn_11 : decode cX3_trimmingsOn 11 = .ok (.aload_n 0, 1) := by decide +kernel
theorem dX3_trimmingsOn_12 : decode cX3_trimmingsOn 12 = .ok (.iload_n 2, 1) := by decide +kernel
theorem dX3_trimmingsOn_13 : decode cX3_trimmingsOn 13 = .ok (.invokevirtual 42, 3) := by decide +kernel
theorem dX3_trimmingsOn_16 : decode cX3_trimmingsOn 16 = .ok (.invokestatic 83, 3) := by decide +kernel
theorem dX3_trimmingsOn_19 : decode cX3_trimmingsOn 19 = .ok (.iadd, 1) := by decide +kernel
theorem dX3_trimmingsOn_20 : decode cX3_trimmingsOn 20 = .ok (.istore_n 1, 1) := by decide +kernel
theorem dX3_trimmingsOn_21 : decode cX3_trimmingsOn 21 = .ok (.iinc 2 1, 3) := by decide +kernel
theorem dX3_trimmingsOn_24 : decode cX3_trimmingsOn 24 = .ok (.goto (-20), 3) := by decide +kernel
theorem dX3_trimmingsOn_27 : decode cX3_trimmingsOn 27 = .ok (.iload_n 1, 1) := by decide +kernel
theorem dX3_trimmingsOn_28 : decode cX3_trimmingsOn 28 = .ok (.ireturn, 1) := by decide +kernel
theorem dX3_sumOf_0 : decode cX3_sumOf 0 = .ok (.iconst 0, 1) := by decide +kernel
theorem dX3_sumOf_1 : decode cX3_sumOf 1 = .ok (.istore_n 3, 1) := by decide +kernel
theorem dX3_sumOf_2 : decode cX3_sumOf 2 = .ok (.iconst 0, 1) := by decide +kernel
theorem dX3_sumOf_3 : decode cX3_sumOf 3 = .ok (.iload_n 1, 1) := by decide +kernel
theorem dX3_sumOf_4 : decode cX3_sumOf 4 = .ok (.invokestatic 88, 3) := by decide +kernel
theorem dX3_sumOf_7 : decode cX3_sumOf 7 = .ok (.istore 4, 2) := by decide +kernel
theorem dX3_sumOf_9 : decode cX3_sumOf 9 = .ok (.iload 4, 2) := by decide +kernel
theorem dX3_sumOf_11 : decode cX3_sumOf 11 = .ok (.iload_n 1, 1) := by decide +kernel
theorem dX3_sumOf_12 : decode cX3_sumOf 12 = .ok (.iload_n 2, 1) := by decide +kernel
theorem dX3_sumOf_13 : decode cX3_sumOf 13 = .ok (.iadd, 1) := by decide +kernel
theorem dX3_sumOf_14 : decode cX3_sumOf 14 = .ok (.if_icmp .ge 26, 3) := by decide +kernel
theorem dX3_sumOf_17 : decode cX3_sumOf 17 = .ok (.iload 4, 2) := by decide +kernel
theorem dX3_sumOf_19 : decode cX3_sumOf 19 = .ok (.bipush 42, 2) := by decide +kernel
theorem dX3_sumOf_21 : decode cX3_sumOf 21 = .ok (.if_icmp .ge 19, 3) := by decide +kernel
theorem dX3_sumOf_24 : decode cX3_sumOf 24 = .ok (.iload_n 3, 1) := by decide +kernel
theorem dX3_sumOf_25 : decode cX3_sumOf 25 = .ok (.aload_n 0, 1) := by decide +kernel
theorem dX3_sumOf_26 : decode cX3_sumOf 26 = .ok (.getfield 9, 3) := by decide +kernel
theorem dX3_sumOf_29 : decode cX3_sumOf 29 = .ok (.iload 4, 2) := by decide +kernel
theorem dX3_sumOf_31 : decode cX3_sumOf 31 = .ok (.iaload, 1) := by decide +kernel
theorem dX3_sumOf_32 : decode cX3_sumOf 32 = .ok (.iadd, 1) := by decide +kernel
theorem dX3_sumOf_33 : decode cX3_sumOf 33 = .ok (.istore_n 3, 1) := by decide +kernel
theorem dX3_sumOf_34 : decode cX3_sumOf 34 = .ok (.iinc 4 1, 3) := by decide +kernel
theorem dX3_sumOf_37 : decode cX3_sumOf 37 = .ok (.goto (-28), 3) := by decide +kernel
theorem dX3_sumOf_40 : decode cX3_sumOf 40 = .ok (.iload_n 3, 1) := by decide +kernel
theorem dX3_sumOf_41 : decode cX3_sumOf 41 = .ok (.ireturn, 1) := by decide +kernel
theorem dX4_init_0 : decode cX4_init 0 = .ok (.aload_n 0, 1) := by decide +kernel
theorem dX4_init_1 : decode cX4_init 1 = .ok (.invokespecial 1, 3) := by decide +kernel
theorem dX4_init_4 : decode cX4_init 4 = .ok (.aload_n 0, 1) := by decide +kernel
theorem dX4_init_5 : decode cX4_init 5 = .ok (.new 7, 3) := by decide +kernel
theorem dX4_init_8 : decode cX4_init 8 = .ok (.dup, 1) := by decide +kernel
theorem dX4_init_9 : decode cX4_init 9 = .ok (.invokespecial 9, 3) := by decide +kernel
theorem dX4_init_12 : decode cX4_init 12 = .ok (.putfield 10, 3) := by decide +kernel
theorem dX4_init_15 : decode cX4_init 15 = .ok (.aload_n 0, 1) := by decide +kernel
theorem dX4_init_16 : decode cX4_init 16 = .ok (.new 16, 3) := by decide +kernel
theorem dX4_init_19 : decode cX4_init 19 = .ok (.dup, 1) := by decide +kernel
theorem dX4_init_20 : decode cX4_init 20 = .ok (.invokespecial 18, 3) := by decide +kernel
theorem dX4_init_23 : decode cX4_init 23 = .ok (.putfield 19, 3) := by decide +kernel
theorem dX4_init_26 : decode cX4_init 26 = .ok (.aload_n 0, 1) := by decide +kernel
theorem dX4_init_27 : decode cX4_init 27 = .ok (.new 23, 3) := by decide +kernel
theorem dX4_init_30 : decode cX4_init 30 = .ok (.dup, 1) := by decide +kernel
theorem dX4_init_31 : decode cX4_init 31 = .ok (.invokespecial 25, 3) := by decide +kernel
theorem dX4_init_34 : decode cX4_init 34 = .ok (.putfield 26, 3) := by decide +kernel
theorem dX4_init_37 : decode cX4_init 37 = .ok (.aload_n 0, 1) := by decide +kernel
theorem dX4_init_38 : decode cX4_init 38 = .ok (.new 23, 3) := by decide +kernel
theorem dX4_init_41 : decode cX4_init 41 = .ok (.dup, 1) := by decide +kernel
theorem dX4_init_42 : decode cX4_init 42 = .ok (.invokespecial 25, 3) := by decide +kernel
theorem dX4_init_45 : decode cX4_init 45 = .ok (.putfield 30, 3) := by decide +kernel
theorem dX4_init_48 : decode cX4_init 48 = .ok (.aload_n 0, 1) := by decide +kernel
theorem dX4_init_49 : decode cX4_init 49 = .ok (.new 33, 3) := by decide +kernel
theorem dX4_init_52 : decode cX4_init 52 = .ok (.dup, 1) := by decide +kernel
theorem dX4_init_53 : decode cX4_init 53 = .ok (.bipush 8, 2) := by decide +kernel
theorem dX4_init_55 : decode cX4_init 55 = .ok (.invokespecial 35, 3) := by decide +kernel
theorem dX4_init_58 : decode cX4_init 58 = .ok (.putfield 38, 3) := by decide +kernel
theorem dX4_init_61 : decode cX4_init 61 = .ok (.aload_n 0, 1) := by decide +kernel
theorem dX4_init_62 : decode cX4_init 62 = .ok (.new 33, 3) := by decide +kernel
theorem dX4_init_65 : decode cX4_init 65 = .ok (.dup, 1) := by decide +kernel
theorem dX4_init_66 : decode cX4_init 66 = .ok (.iconst 2, 1) := by decide +kernel
theorem dX4_init_67 : decode cX4_init 67 = .ok (.invokespecial 35, 3) := by decide +kernel
theorem dX4_init_70 : decode cX4_init 70 = .ok (.putfield 42, 3) := by decide +kernel
theorem dX4_init_73 : decode cX4_init 73 = .ok (.aload_n 0, 1) := by decide +kernel
theorem dX4_init_74 : decode cX4_init 74 = .ok (.bipush 6, 2) := by decide +kernel
theorem dX4_init_76 : decode cX4_init 76 = .ok (.newarray .int, 2) := by decide +kernel
theorem dX4_init_78 : decode cX4_init 78 = .ok (.putfield 45, 3) := by decide +kernel
theorem dX4_init_81 : decode cX4_init 81 = .ok (.aload_n 0, 1) := by decide +kernel
theorem dX4_init_82 : decode cX4_init 82 = .ok (.iconst 2, 1) := by decide +kernel
theorem dX4_init_83 : decode cX4_init 83 = .ok (.newarray .int, 2) := by decide +kernel
theorem dX4_init_85 : decode cX4_init 85 = .ok (.putfield 49, 3) := by decide +kernel
theorem dX4_init_88 : decode cX4_init 88 = .ok (.aload_n 0, 1) := by decide +kernel
theorem dX4_init_89 : decode cX4_init 89 = .ok (.bipush 64, 2) := by decide +kernel
theorem dX4_init_91 : decode cX4_init 91 = .ok (.newarray .int, 2) := by decide +kernel
theorem dX4_init_93 : decode cX4_init 93 = .ok (.putfield 52, 3) := by decide +kernel
theorem dX4_init_96 : decode cX4_init 96 = .ok (.aload_n 0, 1) := by decide +kernel
theorem dX4_init_97 : decode cX4_init 97 = .ok (.bipush 45, 2) := by decide +kernel
theorem dX4_init_99 : decode cX4_init 99 = .ok (.newarray .int, 2) := by decide +kernel
theorem dX4_init_101 : decode cX4_init 101 = .ok (.putfield 55, 3) := by decide +kernel
theorem dX4_init_104 : decode cX4_init 104 = .ok (.aload_n 0, 1) := by decide +kernel
theorem dX4_init_105 : decode cX4_init 105 = .ok (.getfield 10, 3) := by decide +kernel
theorem dX4_init_108 : decode cX4_init 108 = .ok (.ldc 58, 2) := by decide +kernel
theorem dX4_init_110 : decode cX4_init 110 = .ok (.invokevirtual 60, 3) := by decide +kernel
theorem dX4_init_113 : decode cX4_init 113 = .ok (.aload_n 0, 1) := by decide +kernel
theorem dX4_init_114 : decode cX4_init 114 = .ok (.invokevirtual 64, 3) := by decide +kernel
theorem dX4_init_117 : decode cX4_init 117 = .ok (.pop, 1) := by decide +kernel
theorem dX4_init_118 : decode cX4_init 118 = .ok (.aload_n 0, 1) := by decide +kernel
theorem dX4_init_119 : decode cX4_init 119 = .ok (.getfield 10, 3) := by decide +kernel
theorem dX4_init_122 : decode cX4_init 122 = .ok (.iconst 0, 1) := by decide +kernel
theorem dX4_init_123 : decode cX4_init 123 = .ok (.putfield 68, 3) := by decide +kernel
theorem dX4_init_126 : decode cX4_init 126 = .ok (.return_, 1) := by decide +kernel
theorem dX4_write_0 : decode cX4_write 0 = .ok (.iload_n 1, 1) := by decide +kernel
theorem dX4_write_1 : decode cX4_write 1 = .ok (.bipush 32, 2) := by decide +kernel
theorem dX4_write_3 : decode cX4_write 3 = .ok (.if_icmp .lt 9, 3) := by decide +kernel
theorem dX4_write_6 : decode cX4_write 6 = .ok (.iload_n 1, 1) := by decide +kernel
theorem dX4_write_7 : decode cX4_write 7 = .ok (.bipush 126, 2) := by decide +kernel
theorem dX4_write_9 : decode cX4_write 9 = .ok (.if_icmp .le 5, 3) := by decide +kernel
theorem dX4_write_12 : decode cX4_write 12 = .ok (.iconst (-1), 1) := by decide +kernel
theorem dX4_write_13 : decode cX4_write 13 = .ok (.ireturn, 1) := by decide +kernel
theorem dX4_write_14 : decode cX4_write 14 = .ok (.aload_n 0, 1) := by decide +kernel
theorem dX4_write_15 : decode cX4_write 15 = .ok (.getfield 10, 3) := by decide +kernel
theorem dX4_write_18 : decode cX4_write 18 = .ok (.iload_n 1, 1) := by decide +kernel
theorem dX4_write_19 : decode cX4_write 19 = .ok (.i2c, 1) := by decide +kernel
theorem dX4_write_20 : decode cX4_write 20 = .ok (.invokevirtual 72, 3) := by decide +kernel
theorem dX4_write_23 : decode cX4_write 23 = .ok (.ifCond .eq 13, 3) := by decide +kernel
theorem dX4_write_26 : decode cX4_write 26 = .ok (.aload_n 0, 1) := by decide +kernel
theorem dX4_write_27 : decode cX4_write 27 = .ok (.getfield 10, 3) := by decide +kernel
theorem dX4_write_30 : decode cX4_write 30 = .ok (.getfield 68, 3) := by decide +kernel
theorem dX4_write_33 : decode cX4_write 33 = .ok (.goto 5, 3) := by decide +kernel
theorem dX4_write_36 : decode cX4_write 36 = .ok (.bipush (-3), 2) := by decide +kernel
theorem dX4_write_38 : decode cX4_write 38 = .ok (.ireturn, 1) := by decide +kernel
theorem dX4_wipe_0 : decode cX4_wipe 0 = .ok (.aload_n 0, 1) := by decide +kernel
theorem dX4_wipe_1 : decode cX4_wipe 1 = .ok (.getfield 10, 3) := by decide +kernel
theorem dX4_wipe_4 : decode cX4_wipe 4 = .ok (.getfield 68, 3) := by decide +kernel
theorem dX4_wipe_7 : decode cX4_wipe 7 = .ok (.istore_n 1, 1) := by decide +kernel
theorem dX4_wipe_8 : decode cX4_wipe 8 = .ok (.aload_n 0, 1) := by decide +kernel
theorem dX4_wipe_9 : decode cX4_wipe 9 = .ok (.getfield 10, 3) := by decide +kernel
theorem dX4_wipe_12 : decode cX4_wipe 12 = .ok (.iconst 0, 1) := by decide +kernel
theorem dX4_wipe_13 : decode cX4_wipe 13 = .ok (.putfield 68, 3) := by decide +kernel
theorem dX4_wipe_16 : decode cX4_wipe 16 = .ok (.iload_n 1, 1) := by decide +kernel
theorem dX4_wipe_17 : decode cX4_wipe 17 = .ok (.ireturn, 1) := by decide +kernel
theorem dX4_fault_0 : decode cX4_fault 0 = .ok (.aload_n 0, 1) := by decide +kernel
theorem dX4_fault_1 : decode cX4_fault 1 = .ok (.getfield 10, 3) := by decide +kernel
theorem dX4_fault_4 : decode cX4_fault 4 = .ok (.invokevirtual 76, 3) := by decide +kernel
theorem dX4_fault_7 : decode cX4_fault 7 = .ok (.ireturn, 1) := by decide +kernel
theorem dX4_lay_0 : decode cX4_lay 0 = .ok (.aload_n 0, 1) := by decide +kernel
theorem dX4_lay_1 : decode cX4_lay 1 = .ok (.invokevirtual 64, 3) := by decide +kernel
theorem dX4_lay_4 : decode cX4_lay 4 = .ok (.ifCond .eq 13, 3) := by decide +kernel
theorem dX4_lay_7 : decode cX4_lay 7 = .ok (.aload_n 0, 1) := by decide +kernel
theorem dX4_lay_8 : decode cX4_lay 8 = .ok (.getfield 19, 3) := by decide +kernel
theorem dX4_lay_11 : decode cX4_lay 11 = .ok (.getfield 80, 3) := by decide +kernel
theorem dX4_lay_14 : decode cX4_lay 14 = .ok (.goto 5, 3) := by decide +kernel
theorem dX4_lay_17 : decode cX4_lay 17 = .ok (.bipush (-2), 2) := by decide +kernel
theorem dX4_lay_19 : decode cX4_lay 19 = .ok (.ireturn, 1) := by decide +kernel
theorem dX4_peak_0 : decode cX4_peak 0 = .ok (.aload_n 0, 1) := by decide +kernel
theorem dX4_peak_1 : decode cX4_peak 1 = .ok (.getfield 19, 3) := by decide +kernel
theorem dX4_peak_4 : decode cX4_peak 4 = .ok (.iload_n 1, 1) := by decide +kernel
theorem dX4_peak_5 : decode cX4_peak 5 = .ok (.invokevirtual 83, 3) := by decide +kernel
theorem dX4_peak_8 : decode cX4_peak 8 = .ok (.ifCond .ne 5, 3) := by decide +kernel
theorem dX4_peak_11 : decode cX4_peak 11 = .ok (.iconst (-1), 1) := by decide +kernel
theorem dX4_peak_12 : decode cX4_peak 12 = .ok (.ireturn, 1) := by decide +kernel
theorem dX4_peak_13 : decode cX4_peak 13 = .ok (.iload_n 2, 1) := by decide +kernel
theorem dX4_peak_14 : decode cX4_peak 14 = .ok (.tableswitch 103 0 5 #[38, 47, 56, 65, 74, 97], 38) := by decide +kernel
theorem dX4_peak_52 : decode cX4_peak 52 = .ok (.aload_n 0, 1) := by decide +kernel
theorem dX4_peak_53 : decode cX4_peak 53 = .ok (.getfield 19, 3) := by decide +kernel
theorem dX4_peak_56 : decode cX4_peak 56 = .ok (.iload_n 1, 1) := by decide +kernel
theorem dX4_peak_57 : decode cX4_peak 57 = .ok (.invokevirtual 87, 3) := by decide +kernel
theorem dX4_peak_60 : decode cX4_peak 60 = .ok (.ireturn, 1) := by decide +kernel
theorem dX4_peak_61 : decode cX4_peak 61 = .ok (.aload_n 0, 1) := by decide +kernel
theorem dX4_peak_62 : decode cX4_peak 62 = .ok (.getfield 19, 3) := by decide +kernel
theorem dX4_peak_65 : decode cX4_peak 65 = .ok (.iload_n 1, 1) := by decide +kernel
theorem dX4_peak_66 : decode cX4_peak 66 = .ok (.invokevirtual 91, 3) := by decide +kernel
theorem dX4_peak_69 : decode cX4_peak 69 = .ok (.ireturn, 1) := by decide +kernel
theorem dX4_peak_70 : decode cX4_peak 70 = .ok (.aload_n 0, 1) := by decide +kernel
theorem dX4_peak_71 : decode cX4_peak 71 = .ok (.getfield 26, 3) := by decide +kernel
theorem dX4_peak_74 : decode cX4_peak 74 = .ok (.iload_n 1, 1) := by decide +kernel
theorem dX4_peak_75 : decode cX4_peak 75 = .ok (.invokevirtual 94, 3) := by decide +kernel
theorem dX4_peak_78 : decode cX4_peak 78 = .ok (.ireturn, 1) := by decide +kernel
theorem dX4_peak_79 : decode cX4_peak 79 = .ok (.aload_n 0, 1) := by decide +kernel
theorem dX4_peak_80 : decode cX4_peak 80 = .ok (.getfield 26, 3) := by decide +kernel
theorem dX4_peak_83 : decode cX4_peak 83 = .ok (.iload_n 1, 1) := by decide +kernel
theorem dX4_peak_84 : decode cX4_peak 84 = .ok (.invokevirtual 97, 3) := by decide +kernel
theorem dX4_peak_87 : decode cX4_peak 87 = .ok (.ireturn, 1) := by decide +kernel
theorem dX4_peak_88 : decode cX4_peak 88 = .ok (.aload_n 0, 1) := by decide +kernel
theorem dX4_peak_89 : decode cX4_peak 89 = .ok (.getfield 19, 3) := by decide +kernel
theorem dX4_peak_92 : decode cX4_peak 92 = .ok (.iload_n 1, 1) := by decide +kernel
theorem dX4_peak_93 : decode cX4_peak 93 = .ok (.aload_n 0, 1) := by decide +kernel
theorem dX4_peak_94 : decode cX4_peak 94 = .ok (.getfield 19, 3) := by decide +kernel
theorem dX4_peak_97 : decode cX4_peak 97 = .ok (.aload_n 0, 1) := by decide +kernel
theorem dX4_peak_98 : decode cX4_peak 98 = .ok (.getfield 26, 3) := by decide +kernel
theorem dX4_peak_101 : decode cX4_peak 101 = .ok (.invokevirtual 100, 3) := by decide +kernel
theorem dX4_peak_104 : decode cX4_peak 104 = .ok (.invokevirtual 103, 3) := by decide +kernel
theorem dX4_peak_107 : decode cX4_peak 107 = .ok (.invokevirtual 106, 3) := by decide +kernel
theorem dX4_peak_110 : decode cX4_peak 110 = .ok (.ireturn, 1) := by decide +kernel
theorem dX4_peak_111 : decode cX4_peak 111 = .ok (.aload_n 0, 1) := by decide +kernel
theorem dX4_peak_112 : decode cX4_peak 112 = .ok (.iload_n 1, 1) := by decide +kernel
theorem dX4_peak_113 : decode cX4_peak 113 = .ok (.invokevirtual 110, 3) := by decide +kernel
theorem dX4_peak_116 : decode cX4_peak 116 = .ok (.ireturn, 1) := by decide +kernel
theorem dX4_peak_117 : decode cX4_peak 117 = .ok (.iconst (-1), 1) := by decide +kernel
theorem dX4_peak_118 : decode cX4_peak 118 = .ok (.ireturn, 1) := by decide +kernel
theorem dX4_pins_0 : decode cX4_pins 0 = .ok (.aload_n 0, 1) := by decide +kernel
theorem dX4_pins_1 : decode cX4_pins 1 = .ok (.iload_n 1, 1) := by decide +kernel
theorem dX4_pins_2 : decode cX4_pins 2 = .ok (.iload_n 2, 1) := by decide +kernel
theorem dX4_pins_3 : decode cX4_pins 3 = .ok (.invokevirtual 113, 3) := by decide +kernel
theorem dX4_pins_6 : decode cX4_pins 6 = .ok (.ifCond .eq 15, 3) := by decide +kernel
theorem dX4_pins_9 : decode cX4_pins 9 = .ok (.aload_n 0, 1) := by decide +kernel
theorem dX4_pins_10 : decode cX4_pins 10 = .ok (.getfield 26, 3) := by decide +kernel
theorem dX4_pins_13 : decode cX4_pins 13 = .ok (.iload_n 1, 1) := by decide +kernel
theorem dX4_pins_14 : decode cX4_pins 14 = .ok (.iload_n 2, 1) := by decide +kernel
theorem dX4_pins_15 : decode cX4_pins 15 = .ok (.invokevirtual 117, 3) := by decide +kernel
theorem dX4_pins_18 : decode cX4_pins 18 = .ok (.goto 4, 3) := by decide +kernel
theorem dX4_pins_21 : decode cX4_pins 21 = .ok (.iconst (-1), 1) := by decide +kernel
theorem dX4_pins_22 : decode cX4_pins 22 = .ok (.ireturn, 1) := by decide +kernel
theorem dX4_store_0 : decode cX4_store 0 = .ok (.iload_n 1, 1) := by decide +kernel
theorem dX4_store_1 : decode cX4_store 1 = .ok (.invokestatic 120, 3) := by decide +kernel
theorem dX4_store_4 : decode cX4_store 4 = .ok (.ifCond .eq 14, 3) := by decide +kernel
theorem dX4_store_7 : decode cX4_store 7 = .ok (.aload_n 0, 1) := by decide +kernel
theorem dX4_store_8 : decode cX4_store 8 = .ok (.getfield 26, 3) := by decide +kernel
theorem dX4_store_11 : decode cX4_store 11 = .ok (.iload_n 1, 1) := by decide +kernel
theorem dX4_store_12 : decode cX4_store 12 = .ok (.invokevirtual 123, 3) := by decide +kernel
theorem dX4_store_15 : decode cX4_store 15 = .ok (.goto 4, 3) := by decide +kernel
theorem dX4_store_18 : decode cX4_store 18 = .ok (.iconst (-1), 1) := by decide +kernel
theorem dX4_store_19 : decode cX4_store 19 = .ok (.ireturn, 1) := by decide +kernel
theorem dX4_wind_0 : decode cX4_wind 0 = .ok (.iload_n 1, 1) := by decide +kernel
theorem dX4_wind_1 : decode cX4_wind 1 = .ok (.ifCond .lt 9, 3) := by decide +kernel
theorem dX4_wind_4 : decode cX4_wind 4 = .ok (.iload_n 1, 1) := by decide +kernel
theorem dX4_wind_5 : decode cX4_wind 5 = .ok (.bipush 99, 2) := by decide +kernel
theorem dX4_wind_7 : decode cX4_wind 7 = .ok (.if_icmp .le 5, 3) := by decide +kernel
theorem dX4_wind_10 : decode cX4_wind 10 = .ok (.iconst (-1), 1) := by decide +kernel
theorem dX4_wind_11 : decode cX4_wind 11 = .ok (.ireturn, 1) := by decide +kernel
theorem dX4_wind_12 : decode cX4_wind 12 = .ok (.aload_n 0, 1) := by decide +kernel
theorem dX4_wind_13 : decode cX4_wind 13 = .ok (.getfield 19, 3) := by decide +kernel
theorem dX4_wind_16 : decode cX4_wind 16 = .ok (.aload_n 0, 1) := by decide +kernel
theorem dX4_wind_17 : decode cX4_wind 17 = .ok (.getfield 26, 3) := by decide +kernel
theorem dX4_wind_20 : decode cX4_wind 20 = .ok (.invokevirtual 100, 3) := by decide +kernel
theorem dX4_wind_23 : decode cX4_wind 23 = .ok (.iload_n 1, 1) := by decide +kernel
theorem dX4_wind_24 : decode cX4_wind 24 = .ok (.iadd, 1) := by decide +kernel
theorem dX4_wind_25 : decode cX4_wind 25 = .ok (.invokevirtual 103, 3) := by decide +kernel
theorem dX4_wind_28 : decode cX4_wind 28 = .ok (.ireturn, 1) := by decide +kernel
theorem dX4_put_0 : decode cX4_put 0 = .ok (.aload_n 0, 1) := by decide +kernel
theorem dX4_put_1 : decode cX4_put 1 = .ok (.iload_n 1, 1) := by decide +kernel
theorem dX4_put_2 : decode cX4_put 2 = .ok (.iload_n 2, 1) := by decide +kernel
theorem dX4_put_3 : decode cX4_put 3 = .ok (.invokevirtual 113, 3) := by decide +kernel
theorem dX4_put_6 : decode cX4_put 6 = .ok (.ifCond .eq 10, 3) := by decide +kernel
theorem dX4_put_9 : decode cX4_put 9 = .ok (.iload_n 3, 1) := by decide +kernel
theorem dX4_put_10 : decode cX4_put 10 = .ok (.invokestatic 126, 3) := by decide +kernel
theorem dX4_put_13 : decode cX4_put 13 = .ok (.ifCond .ne 5, 3) := by decide +kernel
theorem dX4_put_16 : decode cX4_put 16 = .ok (.iconst (-1), 1) := by decide +kernel
theorem dX4_put_17 : decode cX4_put 17 = .ok (.ireturn, 1) := by decide +kernel
theorem dX4_put_18 : decode cX4_put 18 = .ok (.aload_n 0, 1) := by decide +kernel
theorem dX4_put_19 : decode cX4_put 19 = .ok (.getfield 26, 3) := by decide +kernel
theorem dX4_put_22 : decode cX4_put 22 = .ok (.iload_n 1, 1) := by decide +kernel
theorem dX4_put_23 : decode cX4_put 23 = .ok (.iload_n 2, 1) := by decide +kernel
theorem dX4_put_24 : decode cX4_put 24 = .ok (.invokevirtual 129, 3) := by decide +kernel
theorem dX4_put_27 : decode cX4_put 27 = .ok (.ifCond .ne 6, 3) := by decide +kernel
theorem dX4_put_30 : decode cX4_put 30 = .ok (.bipush (-2), 2) := by decide +kernel
theorem dX4_put_32 : decode cX4_put 32 = .ok (.ireturn, 1) := by decide +kernel
theorem dX4_put_33 : decode cX4_put 33 = .ok (.aload_n 0, 1) := by decide +kernel
theorem dX4_put_34 : decode cX4_put 34 = .ok (.getfield 38, 3) := by decide +kernel
theorem dX4_put_37 : decode cX4_put 37 = .ok (.aload_n 0, 1) := by decide +kernel
theorem dX4_put_38 : decode cX4_put 38 = .ok (.getfield 26, 3) := by decide +kernel
theorem dX4_put_41 : decode cX4_put 41 = .ok (.invokevirtual 132, 3) := by decide +kernel
theorem dX4_put_44 : decode cX4_put 44 = .ok (.aload_n 0, 1) := by decide +kernel
theorem dX4_put_45 : decode cX4_put 45 = .ok (.getfield 26, 3) := by decide +kernel
theorem dX4_put_48 : decode cX4_put 48 = .ok (.iload_n 1, 1) := by decide +kernel
theorem dX4_put_49 : decode cX4_put 49 = .ok (.iload_n 2, 1) := by decide +kernel
theorem dX4_put_50 : decode cX4_put 50 = .ok (.iload_n 3, 1) := by decide +kernel
theorem dX4_put_51 : decode cX4_put 51 = .ok (.invokevirtual 136, 3) := by decide +kernel
theorem dX4_put_54 : decode cX4_put 54 = .ok (.aload_n 0, 1) := by decide +kernel
theorem dX4_put_55 : decode cX4_put 55 = .ok (.getfield 26, 3) := by decide +kernel
theorem dX4_put_58 : decode cX4_put 58 = .ok (.iload_n 1, 1) := by decide +kernel
theorem dX4_put_59 : decode cX4_put 59 = .ok (.invokevirtual 94, 3) := by decide +kernel
theorem dX4_put_62 : decode cX4_put 62 = .ok (.ireturn, 1) := by decide +kernel
theorem dX4_take_0 : decode cX4_take 0 = .ok (.aload_n 0, 1) := by decide +kernel
theorem dX4_take_1 : decode cX4_take 1 = .ok (.iload_n 1, 1) := by decide +kernel
theorem dX4_take_2 : decode cX4_take 2 = .ok (.iload_n 2, 1) := by decide +kernel
theorem dX4_take_3 : decode cX4_take 3 = .ok (.invokevirtual 113, 3) := by decide +kernel
theorem dX4_take_6 : decode cX4_take 6 = .ok (.ifCond .ne 5, 3) := by decide +kernel
theorem dX4_take_9 : decode cX4_take 9 = .ok (.iconst (-1), 1) := by decide +kernel
theorem dX4_take_10 : decode cX4_take 10 = .ok (.ireturn, 1) := by decide +kernel
theorem dX4_take_11 : decode cX4_take 11 = .ok (.aload_n 0, 1) := by decide +kernel
theorem dX4_take_12 : decode cX4_take 12 = .ok (.getfield 26, 3) := by decide +kernel
theorem dX4_take_15 : decode cX4_take 15 = .ok (.iload_n 1, 1) := by decide +kernel
theorem dX4_take_16 : decode cX4_take 16 = .ok (.iload_n 2, 1) := by decide +kernel
theorem dX4_take_17 : decode cX4_take 17 = .ok (.invokevirtual 140, 3) := by decide +kernel
theorem dX4_take_20 : decode cX4_take 20 = .ok (.ifCond .ne 6, 3) := by decide +kernel
theorem dX4_take_23 : decode cX4_take 23 = .ok (.bipush (-2), 2) := by decide +kernel
theorem dX4_take_25 : decode cX4_take 25 = .ok (.ireturn, 1) := by decide +kernel
theorem dX4_take_26 : decode cX4_take 26 = .ok (.aload_n 0, 1) := by decide +kernel
theorem dX4_take_27 : decode cX4_take 27 = .ok (.getfield 38, 3) := by decide +kernel
theorem dX4_take_30 : decode cX4_take 30 = .ok (.aload_n 0, 1) := by decide +kernel
theorem dX4_take_31 : decode cX4_take 31 = .ok (.getfield 26, 3) := by decide +kernel
theorem dX4_take_34 : decode cX4_take 34 = .ok (.invokevirtual 132, 3) := by decide +kernel
theorem dX4_take_37 : decode cX4_take 37 = .ok (.aload_n 0, 1) := by decide +kernel
theorem dX4_take_38 : decode cX4_take 38 = .ok (.getfield 26, 3) := by decide +kernel
theorem dX4_take_41 : decode cX4_take 41 = .ok (.iload_n 1, 1) := by decide +kernel
theorem dX4_take_42 : decode cX4_take 42 = .ok (.iload_n 2, 1) := by decide +kernel
theorem dX4_take_43 : decode cX4_take 43 = .ok (.invokevirtual 143, 3) := by decide +kernel
theorem dX4_take_46 : decode cX4_take 46 = .ok (.aload_n 0, 1) := by decide +kernel
theorem dX4_take_47 : decode cX4_take 47 = .ok (.getfield 26, 3) := by decide +kernel
theorem dX4_take_50 : decode cX4_take 50 = .ok (.iload_n 1, 1) := by decide +kernel
theorem dX4_take_51 : decode cX4_take 51 = .ok (.invokevirtual 94, 3) := by decide +kernel
theorem dX4_take_54 : decode cX4_take 54 = .ok (.ireturn, 1) := by decide +kernel
theorem dX4_pin_0 : decode cX4_pin 0 = .ok (.aload_n 0, 1) := by decide +kernel
theorem dX4_pin_1 : decode cX4_pin 1 = .ok (.iload_n 1, 1) := by decide +kernel
theorem dX4_pin_2 : decode cX4_pin 2 = .ok (.iload_n 2, 1) := by decide +kernel
theorem dX4_pin_3 : decode cX4_pin 3 = .ok (.invokevirtual 113, 3) := by decide +kernel
theorem dX4_pin_6 : decode cX4_pin 6 = .ok (.ifCond .eq 10, 3) := by decide +kernel
theorem dX4_pin_9 : decode cX4_pin 9 = .ok (.iload_n 3, 1) := by decide +kernel
theorem dX4_pin_10 : decode cX4_pin 10 = .ok (.invokestatic 126, 3) := by decide +kernel
theorem dX4_pin_13 : decode cX4_pin 13 = .ok (.ifCond .ne 5, 3) := by decide +kernel
theorem dX4_pin_16 : decode cX4_pin 16 = .ok (.iconst (-1), 1) := by decide +kernel
theorem dX4_pin_17 : decode cX4_pin 17 = .ok (.ireturn, 1) := by decide +kernel
theorem dX4_pin_18 : decode cX4_pin 18 = .ok (.aload_n 0, 1) := by decide +kernel
theorem dX4_pin_19 : decode cX4_pin 19 = .ok (.getfield 26, 3) := by decide +kernel
theorem dX4_pin_22 : decode cX4_pin 22 = .ok (.iload_n 1, 1) := by decide +kernel
theorem dX4_pin_23 : decode cX4_pin 23 = .ok (.iload_n 2, 1) := by decide +kernel
theorem dX4_pin_24 : decode cX4_pin 24 = .ok (.invokevirtual 140, 3) := by decide +kernel
theorem dX4_pin_27 : decode cX4_pin 27 = .ok (.ifCond .ne 6, 3) := by decide +kernel
theorem dX4_pin_30 : decode cX4_pin 30 = .ok (.bipush (-2), 2) := by decide +kernel
theorem dX4_pin_32 : decode cX4_pin 32 = .ok (.ireturn, 1) := by decide +kernel
theorem dX4_pin_33 : decode cX4_pin 33 = .ok (.aload_n 0, 1) := by decide +kernel
theorem dX4_pin_34 : decode cX4_pin 34 = .ok (.getfield 26, 3) := by decide +kernel
theorem dX4_pin_37 : decode cX4_pin 37 = .ok (.iload_n 1, 1) := by decide +kernel
theorem dX4_pin_38 : decode cX4_pin 38 = .ok (.iload_n 2, 1) := by decide +kernel
theorem dX4_pin_39 : decode cX4_pin 39 = .ok (.invokevirtual 117, 3) := by decide +kernel
theorem dX4_pin_42 : decode cX4_pin 42 = .ok (.istore 4, 2) := by decide +kernel
theorem dX4_pin_44 : decode cX4_pin 44 = .ok (.aload_n 0, 1) := by decide +kernel
theorem dX4_pin_45 : decode cX4_pin 45 = .ok (.getfield 38, 3) := by decide +kernel
theorem dX4_pin_48 : decode cX4_pin 48 = .ok (.aload_n 0, 1) := by decide +kernel
theorem dX4_pin_49 : decode cX4_pin 49 = .ok (.getfield 26, 3) := by decide +kernel
theorem dX4_pin_52 : decode cX4_pin 52 = .ok (.invokevirtual 132, 3) := by decide +kernel
theorem dX4_pin_55 : decode cX4_pin 55 = .ok (.aload_n 0, 1) := by decide +kernel
theorem dX4_pin_56 : decode cX4_pin 56 = .ok (.getfield 26, 3) := by decide +kernel
theorem dX4_pin_59 : decode cX4_pin 59 = .ok (.iload_n 1, 1) := by decide +kernel
theorem dX4_pin_60 : decode cX4_pin 60 = .ok (.iload_n 2, 1) := by decide +kernel
theorem dX4_pin_61 : decode cX4_pin 61 = .ok (.iload_n 3, 1) := by decide +kernel
theorem dX4_pin_62 : decode cX4_pin 62 = .ok (.invokevirtual 147, 3) := by decide +kernel
theorem dX4_pin_65 : decode cX4_pin 65 = .ok (.iload 4, 2) := by decide +kernel
theorem dX4_pin_67 : decode cX4_pin 67 = .ok (.ireturn, 1) := by decide +kernel
theorem dX4_pass_0 : decode cX4_pass 0 = .ok (.iload_n 1, 1) := by decide +kernel
theorem dX4_pass_1 : decode cX4_pass 1 = .ok (.iconst 1, 1) := by decide +kernel
theorem dX4_pass_2 : decode cX4_pass 2 = .ok (.if_icmp .lt 9, 3) := by decide +kernel
theorem dX4_pass_5 : decode cX4_pass 5 = .ok (.iload_n 1, 1) := by decide +kernel
theorem dX4_pass_6 : decode cX4_pass 6 = .ok (.bipush 20, 2) := by decide +kernel
theorem dX4_pass_8 : decode cX4_pass 8 = .ok (.if_icmp .le 5, 3) := by decide +kernel
theorem dX4_pass_11 : decode cX4_pass 11 = .ok (.iconst (-1), 1) := by decide +kernel
theorem dX4_pass_12 : decode cX4_pass 12 = .ok (.ireturn, 1) := by decide +kernel
theorem dX4_pass_13 : decode cX4_pass 13 = .ok (.aload_n 0, 1) := by decide +kernel
theorem dX4_pass_14 : decode cX4_pass 14 = .ok (.getfield 26, 3) := by decide +kernel
theorem dX4_pass_17 : decode cX4_pass 17 = .ok (.invokevirtual 100, 3) := by decide +kernel
theorem dX4_pass_20 : decode cX4_pass 20 = .ok (.iload_n 1, 1) := by decide +kernel
theorem dX4_pass_21 : decode cX4_pass 21 = .ok (.iadd, 1) := by decide +kernel
theorem dX4_pass_22 : decode cX4_pass 22 = .ok (.sipush 999, 3) := by decide +kernel
theorem dX4_pass_25 : decode cX4_pass 25 = .ok (.if_icmp .le 6, 3) := by decide +kernel
theorem dX4_pass_28 : decode cX4_pass 28 = .ok (.bipush (-2), 2) := by decide +kernel
theorem dX4_pass_30 : decode cX4_pass 30 = .ok (.ireturn, 1) := by decide +kernel
theorem dX4_pass_31 : decode cX4_pass 31 = .ok (.aload_n 0, 1) := by decide +kernel
theorem dX4_pass_32 : decode cX4_pass 32 = .ok (.getfield 38, 3) := by decide +kernel
theorem dX4_pass_35 : decode cX4_pass 35 = .ok (.aload_n 0, 1) := by decide +kernel
theorem dX4_pass_36 : decode cX4_pass 36 = .ok (.getfield 26, 3) := by decide +kernel
theorem dX4_pass_39 : decode cX4_pass 39 = .ok (.invokevirtual 132, 3) := by decide +kernel
theorem dX4_pass_42 : decode cX4_pass 42 = .ok (.aload_n 0, 1) := by decide +kernel
theorem dX4_pass_43 : decode cX4_pass 43 = .ok (.aload_n 0, 1) := by decide +kernel
theorem dX4_pass_44 : decode cX4_pass 44 = .ok (.getfield 26, 3) := by decide +kernel
theorem dX4_pass_47 : decode cX4_pass 47 = .ok (.iload_n 1, 1) := by decide +kernel
theorem dX4_pass_48 : decode cX4_pass 48 = .ok (.invokevirtual 150, 3) := by decide +kernel
theorem dX4_pass_51 : decode cX4_pass 51 = .ok (.aload_n 0, 1) := by decide +kernel
theorem dX4_pass_52 : decode cX4_pass 52 = .ok (.getfield 26, 3) := by decide +kernel
theorem dX4_pass_55 : decode cX4_pass 55 = .ok (.invokevirtual 100, 3) := by decide +kernel
theorem dX4_pass_58 : decode cX4_pass 58 = .ok (.ireturn, 1) := by decide +kernel
theorem dX4_undo_0 : decode cX4_undo 0 = .ok (.aload_n 0, 1) := by decide +kernel
theorem dX4_undo_1 : decode cX4_undo 1 = .ok (.getfield 38, 3) := by decide +kernel
theorem dX4_undo_4 : decode cX4_undo 4 = .ok (.aload_n 0, 1) := by decide +kernel
theorem dX4_undo_5 : decode cX4_undo 5 = .ok (.getfield 26, 3) := by decide +kernel
theorem dX4_undo_8 : decode cX4_undo 8 = .ok (.invokevirtual 154, 3) := by decide +kernel
theorem dX4_undo_11 : decode cX4_undo 11 = .ok (.ifCond .eq 13, 3) := by decide +kernel
theorem dX4_undo_14 : decode cX4_undo 14 = .ok (.aload_n 0, 1) := by decide +kernel
theorem dX4_undo_15 : decode cX4_undo 15 = .ok (.getfield 38, 3) := by decide +kernel
theorem dX4_undo_18 : decode cX4_undo 18 = .ok (.getfield 158, 3) := by decide +kernel
theorem dX4_undo_21 : decode cX4_undo 21 = .ok (.goto 5, 3) := by decide +kernel
theorem dX4_undo_24 : decode cX4_undo 24 = .ok (.bipush (-2), 2) := by decide +kernel
theorem dX4_undo_26 : decode cX4_undo 26 = .ok (.ireturn, 1) := by decide +kernel
theorem dX4_alike_0 : decode cX4_alike 0 = .ok (.iload_n 1, 1) := by decide +kernel
theorem dX4_alike_1 : decode cX4_alike 1 = .ok (.invokestatic 161, 3) := by decide +kernel
theorem dX4_alike_4 : decode cX4_alike 4 = .ok (.ifCond .ne 5, 3) := by decide +kernel
theorem dX4_alike_7 : decode cX4_alike 7 = .ok (.iconst (-1), 1) := by decide +kernel
theorem dX4_alike_8 : decode cX4_alike 8 = .ok (.ireturn, 1) := by decide +kernel
theorem dX4_alike_9 : decode cX4_alike 9 = .ok (.aload_n 0, 1) := by decide +kernel
theorem dX4_alike_10 : decode cX4_alike 10 = .ok (.aload_n 0, 1) := by decide +kernel
theorem dX4_alike_11 : decode cX4_alike 11 = .ok (.getfield 26, 3) := by decide +kernel
theorem dX4_alike_14 : decode cX4_alike 14 = .ok (.invokevirtual 164, 3) := by decide +kernel
theorem dX4_alike_17 : decode cX4_alike 17 = .ok (.iload_n 1, 1) := by decide +kernel
theorem dX4_alike_18 : decode cX4_alike 18 = .ok (.ifCond .ne 12, 3) := by decide +kernel
theorem dX4_alike_21 : decode cX4_alike 21 = .ok (.aload_n 0, 1) := by decide +kernel
theorem dX4_alike_22 : decode cX4_alike 22 = .ok (.bipush 31, 2) := by decide +kernel
theorem dX4_alike_24 : decode cX4_alike 24 = .ok (.invokevirtual 167, 3) := by decide +kernel
theorem dX4_alike_27 : decode cX4_alike 27 = .ok (.goto 7, 3) := by decide +kernel
theorem dX4_alike_30 : decode cX4_alike 30 = .ok (.aload_n 0, 1) := by decide +kernel
theorem dX4_alike_31 : decode cX4_alike 31 = .ok (.invokevirtual 170, 3) := by decide +kernel
theorem dX4_alike_34 : decode cX4_alike 34 = .ok (.ireturn, 1) := by decide +kernel
theorem dX4_known_0 : decode cX4_known 0 = .ok (.aload_n 0, 1) := by decide +kernel
theorem dX4_known_1 : decode cX4_known 1 = .ok (.getfield 19, 3) := by decide +kernel
theorem dX4_known_4 : decode cX4_known 4 = .ok (.iload_n 1, 1) := by decide +kernel
theorem dX4_known_5 : decode cX4_known 5 = .ok (.invokevirtual 83, 3) := by decide +kernel
theorem dX4_known_8 : decode cX4_known 8 = .ok (.ifCond .eq 18, 3) := by decide +kernel
theorem dX4_known_11 : decode cX4_known 11 = .ok (.aload_n 0, 1) := by decide +kernel
theorem dX4_known_12 : decode cX4_known 12 = .ok (.aload_n 0, 1) := by decide +kernel
theorem dX4_known_13 : decode cX4_known 13 = .ok (.getfield 26, 3) := by decide +kernel
theorem dX4_known_16 : decode cX4_known 16 = .ok (.iload_n 1, 1) := by decide +kernel
theorem dX4_known_17 : decode cX4_known 17 = .ok (.invokevirtual 97, 3) := by decide +kernel
theorem dX4_known_20 : decode cX4_known 20 = .ok (.invokevirtual 173, 3) := by decide +kernel
theorem dX4_known_23 : decode cX4_known 23 = .ok (.goto 4, 3) := by decide +kernel
theorem dX4_known_26 : decode cX4_known 26 = .ok (.iconst (-1), 1) := by decide +kernel
theorem dX4_known_27 : decode cX4_known 27 = .ok (.ireturn, 1) := by decide +kernel
theorem dX4_behind_0 : decode cX4_behind 0 = .ok (.iload_n 1, 1) := by decide +kernel
theorem dX4_behind_1 : decode cX4_behind 1 = .ok (.ifCond .lt 20, 3) := by decide +kernel
theorem dX4_behind_4 : decode cX4_behind 4 = .ok (.iload_n 1, 1) := by decide +kernel
theorem dX4_behind_5 : decode cX4_behind 5 = .ok (.bipush 20, 2) := by decide +kernel
theorem dX4_behind_7 : decode cX4_behind 7 = .ok (.if_icmp .gt 14, 3) := by decide +kernel
theorem dX4_behind_10 : decode cX4_behind 10 = .ok (.aload_n 0, 1) := by decide +kernel
theorem dX4_behind_11 : decode cX4_behind 11 = .ok (.getfield 19, 3) := by decide +kernel
theorem dX4_behind_14 : decode cX4_behind 14 = .ok (.iload_n 2, 1) := by decide +kernel
theorem dX4_behind_15 : decode cX4_behind 15 = .ok (.invokevirtual 83, 3) := by decide +kernel
theorem dX4_behind_18 : decode cX4_behind 18 = .ok (.ifCond .ne 5, 3) := by decide +kernel
theorem dX4_behind_21 : decode cX4_behind 21 = .ok (.iconst (-1), 1) := by decide +kernel
theorem dX4_behind_22 : decode cX4_behind 22 = .ok (.ireturn, 1) := by decide +kernel
theorem dX4_behind_23 : decode cX4_behind 23 = .ok (.aload_n 0, 1) := by decide +kernel
theorem dX4_behind_24 : decode cX4_behind 24 = .ok (.getfield 30, 3) := by decide +kernel
theorem dX4_behind_27 : decode cX4_behind 27 = .ok (.aload_n 0, 1) := by decide +kernel
theorem dX4_behind_28 : decode cX4_behind 28 = .ok (.getfield 26, 3) := by decide +kernel
theorem dX4_behind_31 : decode cX4_behind 31 = .ok (.invokevirtual 176, 3) := by decide +kernel
theorem dX4_behind_34 : decode cX4_behind 34 = .ok (.aload_n 0, 1) := by decide +kernel
theorem dX4_behind_35 : decode cX4_behind 35 = .ok (.aload_n 0, 1) := by decide +kernel
theorem dX4_behind_36 : decode cX4_behind 36 = .ok (.getfield 30, 3) := by decide +kernel
theorem dX4_behind_39 : decode cX4_behind 39 = .ok (.iload_n 1, 1) := by decide +kernel
theorem dX4_behind_40 : decode cX4_behind 40 = .ok (.invokevirtual 150, 3) := by decide +kernel
theorem dX4_behind_43 : decode cX4_behind 43 = .ok (.aload_n 0, 1) := by decide +kernel
theorem dX4_behind_44 : decode cX4_behind 44 = .ok (.getfield 30, 3) := by decide +kernel
theorem dX4_behind_47 : decode cX4_behind 47 = .ok (.iload_n 2, 1) := by decide +kernel
theorem dX4_behind_48 : decode cX4_behind 48 = .ok (.invokevirtual 94, 3) := by decide +kernel
theorem dX4_behind_51 : decode cX4_behind 51 = .ok (.ireturn, 1) := by decide +kernel
theorem dX4_goes_0 : decode cX4_goes 0 = .ok (.aload_n 0, 1) := by decide +kernel
theorem dX4_goes_1 : decode cX4_goes 1 = .ok (.iload_n 1, 1) := by decide +kernel
theorem dX4_goes_2 : decode cX4_goes 2 = .ok (.iload_n 2, 1) := by decide +kernel
theorem dX4_goes_3 : decode cX4_goes 3 = .ok (.invokevirtual 113, 3) := by decide +kernel
theorem dX4_goes_6 : decode cX4_goes 6 = .ok (.ifCond .ne 5, 3) := by decide +kernel
theorem dX4_goes_9 : decode cX4_goes 9 = .ok (.iconst (-1), 1) := by decide +kernel
theorem dX4_goes_10 : decode cX4_goes 10 = .ok (.ireturn, 1) := by decide +kernel
theorem dX4_goes_11 : decode cX4_goes 11 = .ok (.aload_n 0, 1) := by decide +kernel
theorem dX4_goes_12 : decode cX4_goes 12 = .ok (.getfield 26, 3) := by decide +kernel
theorem dX4_goes_15 : decode cX4_goes 15 = .ok (.iload_n 1, 1) := by decide +kernel
theorem dX4_goes_16 : decode cX4_goes 16 = .ok (.iload_n 2, 1) := by decide +kernel
theorem dX4_goes_17 : decode cX4_goes 17 = .ok (.invokevirtual 140, 3) := by decide +kernel
theorem dX4_goes_20 : decode cX4_goes 20 = .ok (.ifCond .ne 6, 3) := by decide +kernel
theorem dX4_goes_23 : decode cX4_goes 23 = .ok (.bipush (-2), 2) := by decide +kernel
theorem dX4_goes_25 : decode cX4_goes 25 = .ok (.ireturn, 1) := by decide +kernel
theorem dX4_goes_26 : decode cX4_goes 26 = .ok (.aload_n 0, 1) := by decide +kernel
theorem dX4_goes_27 : decode cX4_goes 27 = .ok (.getfield 30, 3) := by decide +kernel
theorem dX4_goes_30 : decode cX4_goes 30 = .ok (.aload_n 0, 1) := by decide +kernel
theorem dX4_goes_31 : decode cX4_goes 31 = .ok (.getfield 26, 3) := by decide +kernel
theorem dX4_goes_34 : decode cX4_goes 34 = .ok (.invokevirtual 176, 3) := by decide +kernel
theorem dX4_goes_37 : decode cX4_goes 37 = .ok (.iconst 1, 1) := by decide +kernel
theorem dX4_goes_38 : decode cX4_goes 38 = .ok (.istore_n 3, 1) := by decide +kernel
theorem dX4_goes_39 : decode cX4_goes 39 = .ok (.iload_n 3, 1) := by decide +kernel
theorem dX4_goes_40 : decode cX4_goes 40 = .ok (.bipush 60, 2) := by decide +kernel
theorem dX4_goes_42 : decode cX4_goes 42 = .ok (.if_icmp .gt 34, 3) := by decide +kernel
theorem dX4_goes_45 : decode cX4_goes 45 = .ok (.aload_n 0, 1) := by decide +kernel
theorem dX4_goes_46 : decode cX4_goes 46 = .ok (.getfield 30, 3) := by decide +kernel
theorem dX4_goes_49 : decode cX4_goes 49 = .ok (.aload_n 0, 1) := by decide +kernel
theorem dX4_goes_50 : decode cX4_goes 50 = .ok (.getfield 19, 3) := by decide +kernel
theorem dX4_goes_53 : decode cX4_goes 53 = .ok (.invokevirtual 179, 3) := by decide +kernel
theorem dX4_goes_56 : decode cX4_goes 56 = .ok (.aload_n 0, 1) := by decide +kernel
theorem dX4_goes_57 : decode cX4_goes 57 = .ok (.getfield 30, 3) := by decide +kernel
theorem dX4_goes_60 : decode cX4_goes 60 = .ok (.iload_n 1, 1) := by decide +kernel
theorem dX4_goes_61 : decode cX4_goes 61 = .ok (.iload_n 2, 1) := by decide +kernel
theorem dX4_goes_62 : decode cX4_goes 62 = .ok (.invokevirtual 140, 3) := by decide +kernel
theorem dX4_goes_65 : decode cX4_goes 65 = .ok (.ifCond .ne 5, 3) := by decide +kernel
theorem dX4_goes_68 : decode cX4_goes 68 = .ok (.iload_n 3, 1) := by decide +kernel
theorem dX4_goes_69 : decode cX4_goes 69 = .ok (.ireturn, 1) := by decide +kernel
theorem dX4_goes_70 : decode cX4_goes 70 = .ok (.iinc 3 1, 3) := by decide +kernel
theorem dX4_goes_73 : decode cX4_goes 73 = .ok (.goto (-34), 3) := by decide +kernel
theorem dX4_goes_76 : decode cX4_goes 76 = .ok (.bipush (-4), 2) := by decide +kernel
theorem dX4_goes_78 : decode cX4_goes 78 = .ok (.ireturn, 1) := by decide +kernel
theorem dX4_hold_0 : decode cX4_hold 0 = .ok (.iload_n 1, 1) := by decide +kernel
theorem dX4_hold_1 : decode cX4_hold 1 = .ok (.iconst 1, 1) := by decide +kernel
theorem dX4_hold_2 : decode cX4_hold 2 = .ok (.if_icmp .lt 9, 3) := by decide +kernel
theorem dX4_hold_5 : decode cX4_hold 5 = .ok (.iload_n 1, 1) := by decide +kernel
theorem dX4_hold_6 : decode cX4_hold 6 = .ok (.bipush 20, 2) := by decide +kernel
theorem dX4_hold_8 : decode cX4_hold 8 = .ok (.if_icmp .le 5, 3) := by decide +kernel
theorem dX4_hold_11 : decode cX4_hold 11 = .ok (.iconst (-1), 1) := by decide +kernel
theorem dX4_hold_12 : decode cX4_hold 12 = .ok (.ireturn, 1) := by decide +kernel
theorem dX4_hold_13 : decode cX4_hold 13 = .ok (.iconst 0, 1) := by decide +kernel
theorem dX4_hold_14 : decode cX4_hold 14 = .ok (.istore_n 2, 1) := by decide +kernel
theorem dX4_hold_15 : decode cX4_hold 15 = .ok (.iconst 0, 1) := by decide +kernel
theorem dX4_hold_16 : decode cX4_hold 16 = .ok (.istore_n 3, 1) := by decide +kernel
theorem dX4_hold_17 : decode cX4_hold 17 = .ok (.iload_n 3, 1) := by decide +kernel
theorem dX4_hold_18 : decode cX4_hold 18 = .ok (.aload_n 0, 1) := by decide +kernel
theorem dX4_hold_19 : decode cX4_hold 19 = .ok (.getfield 19, 3) := by decide +kernel
theorem dX4_hold_22 : decode cX4_hold 22 = .ok (.getfield 80, 3) := by decide +kernel
theorem dX4_hold_25 : decode cX4_hold 25 = .ok (.if_icmp .ge 18, 3) := by decide +kernel
theorem dX4_hold_28 : decode cX4_hold 28 = .ok (.iload_n 2, 1) := by decide +kernel
theorem dX4_hold_29 : decode cX4_hold 29 = .ok (.aload_n 0, 1) := by decide +kernel
theorem dX4_hold_30 : decode cX4_hold 30 = .ok (.iload_n 3, 1) := by decide +kernel
theorem dX4_hold_31 : decode cX4_hold 31 = .ok (.iload_n 1, 1) := by decide +kernel
theorem dX4_hold_32 : decode cX4_hold 32 = .ok (.invokevirtual 183, 3) := by decide +kernel
theorem dX4_hold_35 : decode cX4_hold 35 = .ok (.iadd, 1) := by decide +kernel
theorem dX4_hold_36 : decode cX4_hold 36 = .ok (.istore_n 2, 1) := by decide +kernel
theorem dX4_hold_37 : decode cX4_hold 37 = .ok (.iinc 3 1, 3) := by decide +kernel
theorem dX4_hold_40 : decode cX4_hold 40 = .ok (.goto (-23), 3) := by decide +kernel
theorem dX4_hold_43 : decode cX4_hold 43 = .ok (.iload_n 2, 1) := by decide +kernel
theorem dX4_hold_44 : decode cX4_hold 44 = .ok (.ireturn, 1) := by decide +kernel
theorem dX4_tell_0 : decode cX4_tell 0 = .ok (.iload_n 1, 1) := by decide +kernel
theorem dX4_tell_1 : decode cX4_tell 1 = .ok (.invokestatic 161, 3) := by decide +kernel
theorem dX4_tell_4 : decode cX4_tell 4 = .ok (.ifCond .ne 5, 3) := by decide +kernel
theorem dX4_tell_7 : decode cX4_tell 7 = .ok (.iconst (-1), 1) := by decide +kernel
theorem dX4_tell_8 : decode cX4_tell 8 = .ok (.ireturn, 1) := by decide +kernel
theorem dX4_tell_9 : decode cX4_tell 9 = .ok (.aload_n 0, 1) := by decide +kernel
theorem dX4_tell_10 : decode cX4_tell 10 = .ok (.invokevirtual 186, 3) := by decide +kernel
theorem dX4_tell_13 : decode cX4_tell 13 = .ok (.istore_n 2, 1) := by decide +kernel
theorem dX4_tell_14 : decode cX4_tell 14 = .ok (.iload_n 2, 1) := by decide +kernel
theorem dX4_tell_15 : decode cX4_tell 15 = .ok (.bipush (-4), 2) := by decide +kernel
theorem dX4_tell_17 : decode cX4_tell 17 = .ok (.if_icmp .ne 6, 3) := by decide +kernel
theorem dX4_tell_20 : decode cX4_tell 20 = .ok (.bipush (-4), 2) := by decide +kernel
theorem dX4_tell_22 : decode cX4_tell 22 = .ok (.ireturn, 1) := by decide +kernel
theorem dX4_tell_23 : decode cX4_tell 23 = .ok (.iload_n 1, 1) := by decide +kernel
theorem dX4_tell_24 : decode cX4_tell 24 = .ok (.ifCond .ne 10, 3) := by decide +kernel
theorem dX4_tell_27 : decode cX4_tell 27 = .ok (.iload_n 2, 1) := by decide +kernel
theorem dX4_tell_28 : decode cX4_tell 28 = .ok (.invokestatic 189, 3) := by decide +kernel
theorem dX4_tell_31 : decode cX4_tell 31 = .ok (.goto 4, 3) := by decide +kernel
theorem dX4_tell_34 : decode cX4_tell 34 = .ok (.iload_n 2, 1) := by decide +kernel
theorem dX4_tell_35 : decode cX4_tell 35 = .ok (.ireturn, 1) := by decide +kernel
theorem dX4_add_0 : decode cX4_add 0 = .ok (.iload_n 1, 1) := by decide +kernel
theorem dX4_add_1 : decode cX4_add 1 = .ok (.iconst (-1), 1) := by decide +kernel
theorem dX4_add_2 : decode cX4_add 2 = .ok (.if_icmp .lt 8, 3) := by decide +kernel
theorem dX4_add_5 : decode cX4_add 5 = .ok (.iload_n 1, 1) := by decide +kernel
theorem dX4_add_6 : decode cX4_add 6 = .ok (.iconst 1, 1) := by decide +kernel
theorem dX4_add_7 : decode cX4_add 7 = .ok (.if_icmp .le 5, 3) := by decide +kernel
theorem dX4_add_10 : decode cX4_add 10 = .ok (.iconst (-1), 1) := by decide +kernel
theorem dX4_add_11 : decode cX4_add 11 = .ok (.ireturn, 1) := by decide +kernel
theorem dX4_add_12 : decode cX4_add 12 = .ok (.aload_n 0, 1) := by decide +kernel
theorem dX4_add_13 : decode cX4_add 13 = .ok (.invokevirtual 194, 3) := by decide +kernel
theorem dX4_add_16 : decode cX4_add 16 = .ok (.istore_n 2, 1) := by decide +kernel
theorem dX4_add_17 : decode cX4_add 17 = .ok (.iload_n 2, 1) := by decide +kernel
theorem dX4_add_18 : decode cX4_add 18 = .ok (.bipush (-4), 2) := by decide +kernel
theorem dX4_add_20 : decode cX4_add 20 = .ok (.if_icmp .eq 8, 3) := by decide +kernel
theorem dX4_add_23 : decode cX4_add 23 = .ok (.iload_n 1, 1) := by decide +kernel
theorem dX4_add_24 : decode cX4_add 24 = .ok (.iconst (-1), 1) := by decide +kernel
theorem dX4_add_25 : decode cX4_add 25 = .ok (.if_icmp .ne 5, 3) := by decide +kernel
theorem dX4_add_28 : decode cX4_add 28 = .ok (.iload_n 2, 1) := by decide +kernel
theorem dX4_add_29 : decode cX4_add 29 = .ok (.ireturn, 1) := by decide +kernel
theorem dX4_add_30 : decode cX4_add 30 = .ok (.iload_n 1, 1) := by decide +kernel
theorem dX4_add_31 : decode cX4_add 31 = .ok (.iload_n 2, 1) := by decide +kernel
theorem dX4_add_32 : decode cX4_add 32 = .ok (.if_icmp .ge 15, 3) := by decide +kernel
theorem dX4_add_35 : decode cX4_add 35 = .ok (.aload_n 0, 1) := by decide +kernel
theorem dX4_add_36 : decode cX4_add 36 = .ok (.getfield 49, 3) := by decide +kernel
theorem dX4_add_39 : decode cX4_add 39 = .ok (.iload_n 1, 1) := by decide +kernel
theorem dX4_add_40 : decode cX4_add 40 = .ok (.iaload, 1) := by decide +kernel
theorem dX4_add_41 : decode cX4_add 41 = .ok (.invokestatic 197, 3) := by decide +kernel
theorem dX4_add_44 : decode cX4_add 44 = .ok (.goto 5, 3) := by decide +kernel
theorem dX4_add_47 : decode cX4_add 47 = .ok (.bipush (-4), 2) := by decide +kernel
theorem dX4_add_49 : decode cX4_add 49 = .ok (.ireturn, 1) := by decide +kernel
theorem dX4_say_0 : decode cX4_say 0 = .ok (.iload_n 1, 1) := by decide +kernel
theorem dX4_say_1 : decode cX4_say 1 = .ok (.invokestatic 120, 3) := by decide +kernel
theorem dX4_say_4 : decode cX4_say 4 = .ok (.ifCond .eq 10, 3) := by decide +kernel
theorem dX4_say_7 : decode cX4_say 7 = .ok (.iload_n 2, 1) := by decide +kernel
theorem dX4_say_8 : decode cX4_say 8 = .ok (.invokestatic 161, 3) := by decide +kernel
theorem dX4_say_11 : decode cX4_say 11 = .ok (.ifCond .ne 5, 3) := by decide +kernel
theorem dX4_say_14 : decode cX4_say 14 = .ok (.iconst (-1), 1) := by decide +kernel
theorem dX4_say_15 : decode cX4_say 15 = .ok (.ireturn, 1) := by decide +kernel
theorem dX4_say_16 : decode cX4_say 16 = .ok (.aload_n 0, 1) := by decide +kernel
theorem dX4_say_17 : decode cX4_say 17 = .ok (.getfield 200, 3) := by decide +kernel
theorem dX4_say_20 : decode cX4_say 20 = .ok (.bipush 6, 2) := by decide +kernel
theorem dX4_say_22 : decode cX4_say 22 = .ok (.if_icmp .lt 6, 3) := by decide +kernel
theorem dX4_say_25 : decode cX4_say 25 = .ok (.bipush (-3), 2) := by decide +kernel
theorem dX4_say_27 : decode cX4_say 27 = .ok (.ireturn, 1) := by decide +kernel
theorem dX4_say_28 : decode cX4_say 28 = .ok (.iload_n 2, 1) := by decide +kernel
theorem dX4_say_29 : decode cX4_say 29 = .ok (.iconst 1, 1) := by decide +kernel
theorem dX4_say_30 : decode cX4_say 30 = .ok (.if_icmp .ne 18, 3) := by decide +kernel
theorem dX4_say_33 : decode cX4_say 33 = .ok (.aload_n 0, 1) := by decide +kernel
theorem dX4_say_34 : decode cX4_say 34 = .ok (.dup, 1) := by decide +kernel
theorem dX4_say_35 : decode cX4_say 35 = .ok (.getfield 203, 3) := by decide +kernel
theorem dX4_say_38 : decode cX4_say 38 = .ok (.iconst 1, 1) := by decide +kernel
theorem dX4_say_39 : decode cX4_say 39 = .ok (.iload_n 1, 1) := by decide +kernel
theorem dX4_say_40 : decode cX4_say 40 = .ok (.ishl, 1) := by decide +kernel
theorem dX4_say_41 : decode cX4_say 41 = .ok (.ior, 1) := by decide +kernel
theorem dX4_say_42 : decode cX4_say 42 = .ok (.putfield 203, 3) := by decide +kernel
theorem dX4_say_45 : decode cX4_say 45 = .ok (.goto 15, 3) := by decide +kernel
theorem dX4_say_48 : decode cX4_say 48 = .ok (.aload_n 0, 1) := by decide +kernel
theorem dX4_say_49 : decode cX4_say 49 = .ok (.dup, 1) := by decide +kernel
theorem dX4_say_50 : decode cX4_say 50 = .ok (.getfield 206, 3) := by decide +kernel
theorem dX4_say_53 : decode cX4_say 53 = .ok (.iconst 1, 1) := by decide +kernel
theorem dX4_say_54 : decode cX4_say 54 = .ok (.iload_n 1, 1) := by decide +kernel
theorem dX4_say_55 : decode cX4_say 55 = .ok (.ishl, 1) := by decide +kernel
theorem dX4_say_56 : decode cX4_say 56 = .ok (.ior, 1) := by decide +kernel
theorem dX4_say_57 : decode cX4_say 57 = .ok (.putfield 206, 3) := by decide +kernel
theorem dX4_say_60 : decode cX4_say 60 = .ok (.aload_n 0, 1) := by decide +kernel
theorem dX4_say_61 : decode cX4_say 61 = .ok (.dup, 1) := by decide +kernel
theorem dX4_say_62 : decode cX4_say 62 = .ok (.getfield 200, 3) := by decide +kernel
theorem dX4_say_65 : decode cX4_say 65 = .ok (.iconst 1, 1) := by decide +kernel
theorem dX4_say_66 : decode cX4_say 66 = .ok (.iadd, 1) := by decide +kernel
theorem dX4_say_67 : decode cX4_say 67 = .ok (.putfield 200, 3) := by decide +kernel
theorem dX4_say_70 : decode cX4_say 70 = .ok (.aload_n 0, 1) := by decide +kernel
theorem dX4_say_71 : decode cX4_say 71 = .ok (.getfield 200, 3) := by decide +kernel
theorem dX4_say_74 : decode cX4_say 74 = .ok (.ireturn, 1) := by decide +kernel
theorem dX4_forget_0 : decode cX4_forget 0 = .ok (.aload_n 0, 1) := by decide +kernel
theorem dX4_forget_1 : decode cX4_forget 1 = .ok (.getfield 200, 3) := by decide +kernel
theorem dX4_forget_4 : decode cX4_forget 4 = .ok (.istore_n 1, 1) := by decide +kernel
theorem dX4_forget_5 : decode cX4_forget 5 = .ok (.aload_n 0, 1) := by decide +kernel
theorem dX4_forget_6 : decode cX4_forget 6 = .ok (.iconst 0, 1) := by decide +kernel
theorem dX4_forget_7 : decode cX4_forget 7 = .ok (.putfield 203, 3) := by decide +kernel
theorem dX4_forget_10 : decode cX4_forget 10 = .ok (.aload_n 0, 1) := by decide +kernel
theorem dX4_forget_11 : decode cX4_forget 11 = .ok (.iconst 0, 1) := by decide +kernel
theorem dX4_forget_12 : decode cX4_forget 12 = .ok (.putfield 206, 3) := by decide +kernel
theorem dX4_forget_15 : decode cX4_forget 15 = .ok (.aload_n 0, 1) := by decide +kernel
theorem dX4_forget_16 : decode cX4_forget 16 = .ok (.iconst 0, 1) := by decide +kernel
theorem dX4_forget_17 : decode cX4_forget 17 = .ok (.putfield 200, 3) := by decide +kernel
theorem dX4_forget_20 : decode cX4_forget 20 = .ok (.iload_n 1, 1) := by decide +kernel
theorem dX4_forget_21 : decode cX4_forget 21 = .ok (.ireturn, 1) := by decide +kernel
theorem dX4_which_0 : decode cX4_which 0 = .ok (.iconst 0, 1) := by decide +kernel
theorem dX4_which_1 : decode cX4_which 1 = .ok (.istore_n 1, 1) := by decide +kernel
theorem dX4_which_2 : decode cX4_which 2 = .ok (.iconst 0, 1) := by decide +kernel
theorem dX4_which_3 : decode cX4_which 3 = .ok (.istore_n 2, 1) := by decide +kernel
theorem dX4_which_4 : decode cX4_which 4 = .ok (.iload_n 2, 1) := by decide +kernel
theorem dX4_which_5 : decode cX4_which 5 = .ok (.aload_n 0, 1) := by decide +kernel
theorem dX4_which_6 : decode cX4_which 6 = .ok (.getfield 19, 3) := by decide +kernel
theorem dX4_which_9 : decode cX4_which 9 = .ok (.getfield 80, 3) := by decide +kernel
theorem dX4_which_12 : decode cX4_which 12 = .ok (.if_icmp .ge 46, 3) := by decide +kernel
theorem dX4_which_15 : decode cX4_which 15 = .ok (.aload_n 0, 1) := by decide +kernel
theorem dX4_which_16 : decode cX4_which 16 = .ok (.getfield 26, 3) := by decide +kernel
theorem dX4_which_19 : decode cX4_which 19 = .ok (.iload_n 2, 1) := by decide +kernel
theorem dX4_which_20 : decode cX4_which 20 = .ok (.invokevirtual 94, 3) := by decide +kernel
theorem dX4_which_23 : decode cX4_which 23 = .ok (.istore_n 3, 1) := by decide +kernel
theorem dX4_which_24 : decode cX4_which 24 = .ok (.iload_n 3, 1) := by decide +kernel
theorem dX4_which_25 : decode cX4_which 25 = .ok (.aload_n 0, 1) := by decide +kernel
theorem dX4_which_26 : decode cX4_which 26 = .ok (.getfield 203, 3) := by decide +kernel
theorem dX4_which_29 : decode cX4_which 29 = .ok (.iand, 1) := by decide +kernel
theorem dX4_which_30 : decode cX4_which 30 = .ok (.aload_n 0, 1) := by decide +kernel
theorem dX4_which_31 : decode cX4_which 31 = .ok (.getfield 203, 3) := by decide +kernel
theorem dX4_which_34 : decode cX4_which 34 = .ok (.if_icmp .ne 18, 3) := by decide +kernel
theorem dX4_which_37 : decode cX4_which 37 = .ok (.iload_n 3, 1) := by decide +kernel
theorem dX4_which_38 : decode cX4_which 38 = .ok (.aload_n 0, 1) := by decide +kernel
theorem dX4_which_39 : decode cX4_which 39 = .ok (.getfield 206, 3) := by decide +kernel
theorem dX4_which_42 : decode cX4_which 42 = .ok (.iand, 1) := by decide +kernel
theorem dX4_which_43 : decode cX4_which 43 = .ok (.ifCond .ne 9, 3) := by decide +kernel
theorem dX4_which_46 : decode cX4_which 46 = .ok (.iload_n 1, 1) := by decide +kernel
theorem dX4_which_47 : decode cX4_which 47 = .ok (.iconst 1, 1) := by decide +kernel
theorem dX4_which_48 : decode cX4_which 48 = .ok (.iload_n 2, 1) := by decide +kernel
theorem dX4_which_49 : decode cX4_which 49 = .ok (.ishl, 1) := by decide +kernel
theorem dX4_which_50 : decode cX4_which 50 = .ok (.ior, 1) := by decide +kernel
theorem dX4_which_51 : decode cX4_which 51 = .ok (.istore_n 1, 1) := by decide +kernel
theorem dX4_which_52 : decode cX4_which 52 = .ok (.iinc 2 1, 3) := by decide +kernel
theorem dX4_which_55 : decode cX4_which 55 = .ok (.goto (-51), 3) := by decide +kernel
theorem dX4_which_58 : decode cX4_which 58 = .ok (.iload_n 1, 1) := by decide +kernel
theorem dX4_which_59 : decode cX4_which 59 = .ok (.ireturn, 1) := by decide +kernel
theorem dX4_ask_0 : decode cX4_ask 0 = .ok (.iload_n 1, 1) := by decide +kernel
theorem dX4_ask_1 : decode cX4_ask 1 = .ok (.invokestatic 161, 3) := by decide +kernel
theorem dX4_ask_4 : decode cX4_ask 4 = .ok (.ifCond .ne 5, 3) := by decide +kernel
theorem dX4_ask_7 : decode cX4_ask 7 = .ok (.iconst (-1), 1) := by decide +kernel
theorem dX4_ask_8 : decode cX4_ask 8 = .ok (.ireturn, 1) := by decide +kernel
theorem dX4_ask_9 : decode cX4_ask 9 = .ok (.aload_n 0, 1) := by decide +kernel
theorem dX4_ask_10 : decode cX4_ask 10 = .ok (.invokevirtual 209, 3) := by decide +kernel
theorem dX4_ask_13 : decode cX4_ask 13 = .ok (.istore_n 2, 1) := by decide +kernel
theorem dX4_ask_14 : decode cX4_ask 14 = .ok (.iload_n 2, 1) := by decide +kernel
theorem dX4_ask_15 : decode cX4_ask 15 = .ok (.ifCond .ne 8, 3) := by decide +kernel
theorem dX4_ask_18 : decode cX4_ask 18 = .ok (.bipush (-4), 2) := by decide +kernel
theorem dX4_ask_20 : decode cX4_ask 20 = .ok (.goto 8, 3) := by decide +kernel
theorem dX4_ask_23 : decode cX4_ask 23 = .ok (.aload_n 0, 1) := by decide +kernel
theorem dX4_ask_24 : decode cX4_ask 24 = .ok (.iload_n 2, 1) := by decide +kernel
theorem dX4_ask_25 : decode cX4_ask 25 = .ok (.invokevirtual 212, 3) := by decide +kernel
theorem dX4_ask_28 : decode cX4_ask 28 = .ok (.istore_n 3, 1) := by decide +kernel
theorem dX4_ask_29 : decode cX4_ask 29 = .ok (.iload_n 3, 1) := by decide +kernel
theorem dX4_ask_30 : decode cX4_ask 30 = .ok (.bipush (-4), 2) := by decide +kernel
theorem dX4_ask_32 : decode cX4_ask 32 = .ok (.if_icmp .eq 7, 3) := by decide +kernel
theorem dX4_ask_35 : decode cX4_ask 35 = .ok (.iload_n 1, 1) := by decide +kernel
theorem dX4_ask_36 : decode cX4_ask 36 = .ok (.ifCond .ne 7, 3) := by decide +kernel
theorem dX4_ask_39 : decode cX4_ask 39 = .ok (.iload_n 3, 1) := by decide +kernel
theorem dX4_ask_40 : decode cX4_ask 40 = .ok (.goto 9, 3) := by decide +kernel
theorem dX4_ask_43 : decode cX4_ask 43 = .ok (.aload_n 0, 1) := by decide +kernel
theorem dX4_ask_44 : decode cX4_ask 44 = .ok (.iload_n 2, 1) := by decide +kernel
theorem dX4_ask_45 : decode cX4_ask 45 = .ok (.iload_n 3, 1) := by decide +kernel
theorem dX4_ask_46 : decode cX4_ask 46 = .ok (.invokevirtual 215, 3) := by decide +kernel
theorem dX4_ask_49 : decode cX4_ask 49 = .ok (.ireturn, 1) := by decide +kernel
theorem dX4_match_0 : decode cX4_match 0 = .ok (.iload_n 1, 1) := by decide +kernel
theorem dX4_match_1 : decode cX4_match 1 = .ok (.iconst (-1), 1) := by decide +kernel
theorem dX4_match_2 : decode cX4_match 2 = .ok (.if_icmp .eq 16, 3) := by decide +kernel
theorem dX4_match_5 : decode cX4_match 5 = .ok (.aload_n 0, 1) := by decide +kernel
theorem dX4_match_6 : decode cX4_match 6 = .ok (.getfield 19, 3) := by decide +kernel
theorem dX4_match_9 : decode cX4_match 9 = .ok (.iload_n 1, 1) := by decide +kernel
theorem dX4_match_10 : decode cX4_match 10 = .ok (.invokevirtual 83, 3) := by decide +kernel
theorem dX4_match_13 : decode cX4_match 13 = .ok (.ifCond .ne 5, 3) := by decide +kernel
theorem dX4_match_16 : decode cX4_match 16 = .ok (.iconst (-1), 1) := by decide +kernel
theorem dX4_match_17 : decode cX4_match 17 = .ok (.ireturn, 1) := by decide +kernel
theorem dX4_match_18 : decode cX4_match 18 = .ok (.aload_n 0, 1) := by decide +kernel
theorem dX4_match_19 : decode cX4_match 19 = .ok (.invokevirtual 218, 3) := by decide +kernel
theorem dX4_match_22 : decode cX4_match 22 = .ok (.iload_n 1, 1) := by decide +kernel
theorem dX4_match_23 : decode cX4_match 23 = .ok (.iconst (-1), 1) := by decide +kernel
theorem dX4_match_24 : decode cX4_match 24 = .ok (.if_icmp .ne 10, 3) := by decide +kernel
theorem dX4_match_27 : decode cX4_match 27 = .ok (.aload_n 0, 1) := by decide +kernel
theorem dX4_match_28 : decode cX4_match 28 = .ok (.getfield 52, 3) := by decide +kernel
theorem dX4_match_31 : decode cX4_match 31 = .ok (.iconst 0, 1) := by decide +kernel
theorem dX4_match_32 : decode cX4_match 32 = .ok (.iaload, 1) := by decide +kernel
theorem dX4_match_33 : decode cX4_match 33 = .ok (.ireturn, 1) := by decide +kernel
theorem dX4_match_34 : decode cX4_match 34 = .ok (.aload_n 0, 1) := by decide +kernel
theorem dX4_match_35 : decode cX4_match 35 = .ok (.getfield 52, 3) := by decide +kernel
theorem dX4_match_38 : decode cX4_match 38 = .ok (.iconst 0, 1) := by decide +kernel
theorem dX4_match_39 : decode cX4_match 39 = .ok (.iaload, 1) := by decide +kernel
theorem dX4_match_40 : decode cX4_match 40 = .ok (.ifCond .ne 8, 3) := by decide +kernel
theorem dX4_match_43 : decode cX4_match 43 = .ok (.bipush (-4), 2) := by decide +kernel
theorem dX4_match_45 : decode cX4_match 45 = .ok (.goto 8, 3) := by decide +kernel
theorem dX4_match_48 : decode cX4_match 48 = .ok (.aload_n 0, 1) := by decide +kernel
theorem dX4_match_49 : decode cX4_match 49 = .ok (.iload_n 1, 1) := by decide +kernel
theorem dX4_match_50 : decode cX4_match 50 = .ok (.invokevirtual 221, 3) := by decide +kernel
theorem dX4_match_53 : decode cX4_match 53 = .ok (.ireturn, 1) := by decide +kernel
theorem dX4_storms_0 : decode cX4_storms 0 = .ok (.aload_n 0, 1) := by decide +kernel
theorem dX4_storms_1 : decode cX4_storms 1 = .ok (.iload_n 1, 1) := by decide +kernel
theorem dX4_storms_2 : decode cX4_storms 2 = .ok (.iload_n 2, 1) := by decide +kernel
theorem dX4_storms_3 : decode cX4_storms 3 = .ok (.invokevirtual 113, 3) := by decide +kernel
theorem dX4_storms_6 : decode cX4_storms 6 = .ok (.ifCond .eq 33, 3) := by decide +kernel
theorem dX4_storms_9 : decode cX4_storms 9 = .ok (.iload_n 3, 1) := by decide +kernel
theorem dX4_storms_10 : decode cX4_storms 10 = .ok (.ifCond .lt 29, 3) := by decide +kernel
theorem dX4_storms_13 : decode cX4_storms 13 = .ok (.iload_n 3, 1) := by decide +kernel
theorem dX4_storms_14 : decode cX4_storms 14 = .ok (.bipush 8, 2) := by decide +kernel
theorem dX4_storms_16 : decode cX4_storms 16 = .ok (.if_icmp .gt 23, 3) := by decide +kernel
theorem dX4_storms_19 : decode cX4_storms 19 = .ok (.iload 4, 2) := by decide +kernel
theorem dX4_storms_21 : decode cX4_storms 21 = .ok (.ifCond .lt 18, 3) := by decide +kernel
theorem dX4_storms_24 : decode cX4_storms 24 = .ok (.iload 4, 2) := by decide +kernel
theorem dX4_storms_26 : decode cX4_storms 26 = .ok (.bipush 10, 2) := by decide +kernel
theorem dX4_storms_28 : decode cX4_storms 28 = .ok (.if_icmp .gt 11, 3) := by decide +kernel
theorem dX4_storms_31 : decode cX4_storms 31 = .ok (.iload 5, 2) := by decide +kernel
theorem dX4_storms_33 : decode cX4_storms 33 = .ok (.invokestatic 161, 3) := by decide +kernel
theorem dX4_storms_36 : decode cX4_storms 36 = .ok (.ifCond .ne 5, 3) := by decide +kernel
theorem dX4_storms_39 : decode cX4_storms 39 = .ok (.iconst (-1), 1) := by decide +kernel
theorem dX4_storms_40 : decode cX4_storms 40 = .ok (.ireturn, 1) := by decide +kernel
theorem dX4_storms_41 : decode cX4_storms 41 = .ok (.iconst 0, 1) := by decide +kernel
theorem dX4_storms_42 : decode cX4_storms 42 = .ok (.istore 6, 2) := by decide +kernel
theorem dX4_storms_44 : decode cX4_storms 44 = .ok (.iload 6, 2) := by decide +kernel
theorem dX4_storms_46 : decode cX4_storms 46 = .ok (.iconst 5, 1) := by decide +kernel
theorem dX4_storms_47 : decode cX4_storms 47 = .ok (.if_icmp .ge 26, 3) := by decide +kernel
theorem dX4_storms_50 : decode cX4_storms 50 = .ok (.aload_n 0, 1) := by decide +kernel
theorem dX4_storms_51 : decode cX4_storms 51 = .ok (.getfield 55, 3) := by decide +kernel
theorem dX4_storms_54 : decode cX4_storms 54 = .ok (.iload 6, 2) := by decide +kernel
theorem dX4_storms_56 : decode cX4_storms 56 = .ok (.aload_n 0, 1) := by decide +kernel
theorem dX4_storms_57 : decode cX4_storms 57 = .ok (.getfield 26, 3) := by decide +kernel
theorem dX4_storms_60 : decode cX4_storms 60 = .ok (.iload_n 1, 1) := by decide +kernel
theorem dX4_storms_61 : decode cX4_storms 61 = .ok (.iload 6, 2) := by decide +kernel
theorem dX4_storms_63 : decode cX4_storms 63 = .ok (.invokevirtual 117, 3) := by decide +kernel
theorem dX4_storms_66 : decode cX4_storms 66 = .ok (.iastore, 1) := by decide +kernel
theorem dX4_storms_67 : decode cX4_storms 67 = .ok (.iinc 6 1, 3) := by decide +kernel
theorem dX4_storms_70 : decode cX4_storms 70 = .ok (.goto (-26), 3) := by decide +kernel
theorem dX4_storms_73 : decode cX4_storms 73 = .ok (.aload_n 0, 1) := by decide +kernel
theorem dX4_storms_74 : decode cX4_storms 74 = .ok (.iconst 0, 1) := by decide +kernel
theorem dX4_storms_75 : decode cX4_storms 75 = .ok (.iload_n 3, 1) := by decide +kernel
theorem dX4_storms_76 : decode cX4_storms 76 = .ok (.iload_n 1, 1) := by decide +kernel
theorem dX4_storms_77 : decode cX4_storms 77 = .ok (.iload_n 2, 1) := by decide +kernel
theorem dX4_storms_78 : decode cX4_storms 78 = .ok (.iload 4, 2) := by decide +kernel
theorem dX4_storms_80 : decode cX4_storms 80 = .ok (.invokevirtual 224, 3) := by decide +kernel
theorem dX4_storms_83 : decode cX4_storms 83 = .ok (.istore 6, 2) := by decide +kernel
theorem dX4_storms_85 : decode cX4_storms 85 = .ok (.iconst 1, 1) := by decide +kernel
theorem dX4_storms_86 : decode cX4_storms 86 = .ok (.istore 7, 2) := by decide +kernel
theorem dX4_storms_88 : decode cX4_storms 88 = .ok (.iconst 0, 1) := by decide +kernel
theorem dX4_storms_89 : decode cX4_storms 89 = .ok (.istore 8, 2) := by decide +kernel
theorem dX4_storms_91 : decode cX4_storms 91 = .ok (.iload 8, 2) := by decide +kernel
theorem dX4_storms_93 : decode cX4_storms 93 = .ok (.iload_n 3, 1) := by decide +kernel
theorem dX4_storms_94 : decode cX4_storms 94 = .ok (.if_icmp .ge 16, 3) := by decide +kernel
theorem dX4_storms_97 : decode cX4_storms 97 = .ok (.iload 7, 2) := by decide +kernel
theorem dX4_storms_99 : decode cX4_storms 99 = .ok (.bipush 10, 2) := by decide +kernel
theorem dX4_storms_101 : decode cX4_storms 101 = .ok (.imul, 1) := by decide +kernel
theorem dX4_storms_102 : decode cX4_storms 102 = .ok (.istore 7, 2) := by decide +kernel
theorem dX4_storms_104 : decode cX4_storms 104 = .ok (.iinc 8 1, 3) := by decide +kernel
theorem dX4_storms_107 : decode cX4_storms 107 = .ok (.goto (-16), 3) := by decide +kernel
theorem dX4_storms_110 : decode cX4_storms 110 = .ok (.iload 5, 2) := by decide +kernel
theorem dX4_storms_112 : decode cX4_storms 112 = .ok (.ifCond .ne 14, 3) := by decide +kernel
theorem dX4_storms_115 : decode cX4_storms 115 = .ok (.iload 6, 2) := by decide +kernel
theorem dX4_storms_117 : decode cX4_storms 117 = .ok (.iload 7, 2) := by decide +kernel
theorem dX4_storms_119 : decode cX4_storms 119 = .ok (.iload_n 3, 1) := by decide +kernel
theorem dX4_storms_120 : decode cX4_storms 120 = .ok (.invokestatic 228, 3) := by decide +kernel
theorem dX4_storms_123 : decode cX4_storms 123 = .ok (.goto 11, 3) := by decide +kernel
theorem dX4_storms_126 : decode cX4_storms 126 = .ok (.iload 7, 2) := by decide +kernel
theorem dX4_storms_128 : decode cX4_storms 128 = .ok (.iload 6, 2) := by decide +kernel
theorem dX4_storms_130 : decode cX4_storms 130 = .ok (.iload_n 3, 1) := by decide +kernel
theorem dX4_storms_131 : decode cX4_storms 131 = .ok (.invokestatic 228, 3) := by decide +kernel
theorem dX4_storms_134 : decode cX4_storms 134 = .ok (.ireturn, 1) := by decide +kernel
theorem dX4_century_0 : decode cX4_century 0 = .ok (.iload_n 1, 1) := by decide +kernel
theorem dX4_century_1 : decode cX4_century 1 = .ok (.ifCond .lt 28, 3) := by decide +kernel
theorem dX4_century_4 : decode cX4_century 4 = .ok (.iload_n 1, 1) := by decide +kernel
theorem dX4_century_5 : decode cX4_century 5 = .ok (.sipush 9999, 3) := by decide +kernel
theorem dX4_century_8 : decode cX4_century 8 = .ok (.if_icmp .gt 21, 3) := by decide +kernel
theorem dX4_century_11 : decode cX4_century 11 = .ok (.iload_n 2, 1) := by decide +kernel
theorem dX4_century_12 : decode cX4_century 12 = .ok (.iconst 1, 1) := by decide +kernel
theorem dX4_century_13 : decode cX4_century 13 = .ok (.if_icmp .lt 16, 3) := by decide +kernel
theorem dX4_century_16 : decode cX4_century 16 = .ok (.iload_n 2, 1) := by decide +kernel
theorem dX4_century_17 : decode cX4_century 17 = .ok (.bipush 60, 2) := by decide +kernel
theorem dX4_century_19 : decode cX4_century 19 = .ok (.if_icmp .gt 10, 3) := by decide +kernel
theorem dX4_century_22 : decode cX4_century 22 = .ok (.iload_n 3, 1) := by decide +kernel
theorem dX4_century_23 : decode cX4_century 23 = .ok (.invokestatic 161, 3) := by decide +kernel
theorem dX4_century_26 : decode cX4_century 26 = .ok (.ifCond .ne 5, 3) := by decide +kernel
theorem dX4_century_29 : decode cX4_century 29 = .ok (.iconst (-1), 1) := by decide +kernel
theorem dX4_century_30 : decode cX4_century 30 = .ok (.ireturn, 1) := by decide +kernel
theorem dX4_century_31 : decode cX4_century 31 = .ok (.aload_n 0, 1) := by decide +kernel
theorem dX4_century_32 : decode cX4_century 32 = .ok (.getfield 30, 3) := by decide +kernel
theorem dX4_century_35 : decode cX4_century 35 = .ok (.aload_n 0, 1) := by decide +kernel
theorem dX4_century_36 : decode cX4_century 36 = .ok (.getfield 26, 3) := by decide +kernel
theorem dX4_century_39 : decode cX4_century 39 = .ok (.invokevirtual 176, 3) := by decide +kernel
theorem dX4_century_42 : decode cX4_century 42 = .ok (.iconst 0, 1) := by decide +kernel
theorem dX4_century_43 : decode cX4_century 43 = .ok (.istore 4, 2) := by decide +kernel
theorem dX4_century_45 : decode cX4_century 45 = .ok (.iload 4, 2) := by decide +kernel
theorem dX4_century_47 : decode cX4_century 47 = .ok (.iload_n 2, 1) := by decide +kernel
theorem dX4_century_48 : decode cX4_century 48 = .ok (.if_icmp .ge 34, 3) := by decide +kernel
theorem dX4_century_51 : decode cX4_century 51 = .ok (.aload_n 0, 1) := by decide +kernel
theorem dX4_century_52 : decode cX4_century 52 = .ok (.aload_n 0, 1) := by decide +kernel
theorem dX4_century_53 : decode cX4_century 53 = .ok (.getfield 30, 3) := by decide +kernel
theorem dX4_century_56 : decode cX4_century 56 = .ok (.iload_n 1, 1) := by decide +kernel
theorem dX4_century_57 : decode cX4_century 57 = .ok (.iload 4, 2) := by decide +kernel
theorem dX4_century_59 : decode cX4_century 59 = .ok (.invokestatic 232, 3) := by decide +kernel
theorem dX4_century_62 : decode cX4_century 62 = .ok (.invokevirtual 235, 3) := by decide +kernel
theorem dX4_century_65 : decode cX4_century 65 = .ok (.aload_n 0, 1) := by decide +kernel
theorem dX4_century_66 : decode cX4_century 66 = .ok (.getfield 30, 3) := by decide +kernel
theorem dX4_century_69 : decode cX4_century 69 = .ok (.aload_n 0, 1) := by decide +kernel
theorem dX4_century_70 : decode cX4_century 70 = .ok (.getfield 19, 3) := by decide +kernel
theorem dX4_century_73 : decode cX4_century 73 = .ok (.invokevirtual 179, 3) := by decide +kernel
theorem dX4_century_76 : decode cX4_century 76 = .ok (.iinc 4 1, 3) := by decide +kernel
theorem dX4_century_79 : decode cX4_century 79 = .ok (.goto (-34), 3) := by decide +kernel
theorem dX4_century_82 : decode cX4_century 82 = .ok (.aload_n 0, 1) := by decide +kernel
theorem dX4_century_83 : decode cX4_century 83 = .ok (.aload_n 0, 1) := by decide +kernel
theorem dX4_century_84 : decode cX4_century 84 = .ok (.getfield 30, 3) := by decide +kernel
theorem dX4_century_87 : decode cX4_century 87 = .ok (.invokevirtual 164, 3) := by decide +kernel
theorem dX4_century_90 : decode cX4_century 90 = .ok (.iload_n 3, 1) := by decide +kernel
theorem dX4_century_91 : decode cX4_century 91 = .ok (.ifCond .ne 13, 3) := by decide +kernel
theorem dX4_century_94 : decode cX4_century 94 = .ok (.aload_n 0, 1) := by decide +kernel
theorem dX4_century_95 : decode cX4_century 95 = .ok (.getfield 30, 3) := by decide +kernel
theorem dX4_century_98 : decode cX4_century 98 = .ok (.invokevirtual 238, 3) := by decide +kernel
theorem dX4_century_101 : decode cX4_century 101 = .ok (.goto 9, 3) := by decide +kernel
theorem dX4_century_104 : decode cX4_century 104 = .ok (.aload_n 0, 1) := by decide +kernel
theorem dX4_century_105 : decode cX4_century 105 = .ok (.bipush 31, 2) := by decide +kernel
theorem dX4_century_107 : decode cX4_century 107 = .ok (.invokevirtual 167, 3) := by decide +kernel
theorem dX4_century_110 : decode cX4_century 110 = .ok (.ireturn, 1) := by decide +kernel
theorem dX4_keep_0 : decode cX4_keep 0 = .ok (.aload_n 0, 1) := by decide +kernel
theorem dX4_keep_1 : decode cX4_keep 1 = .ok (.getfield 42, 3) := by decide +kernel
theorem dX4_keep_4 : decode cX4_keep 4 = .ok (.getfield 158, 3) := by decide +kernel
theorem dX4_keep_7 : decode cX4_keep 7 = .ok (.iconst 2, 1) := by decide +kernel
theorem dX4_keep_8 : decode cX4_keep 8 = .ok (.if_icmp .lt 6, 3) := by decide +kernel
theorem dX4_keep_11 : decode cX4_keep 11 = .ok (.bipush (-3), 2) := by decide +kernel
theorem dX4_keep_13 : decode cX4_keep 13 = .ok (.ireturn, 1) := by decide +kernel
theorem dX4_keep_14 : decode cX4_keep 14 = .ok (.aload_n 0, 1) := by decide +kernel
theorem dX4_keep_15 : decode cX4_keep 15 = .ok (.getfield 42, 3) := by decide +kernel
theorem dX4_keep_18 : decode cX4_keep 18 = .ok (.aload_n 0, 1) := by decide +kernel
theorem dX4_keep_19 : decode cX4_keep 19 = .ok (.getfield 26, 3) := by decide +kernel
theorem dX4_keep_22 : decode cX4_keep 22 = .ok (.invokevirtual 132, 3) := by decide +kernel
theorem dX4_keep_25 : decode cX4_keep 25 = .ok (.aload_n 0, 1) := by decide +kernel
theorem dX4_keep_26 : decode cX4_keep 26 = .ok (.getfield 42, 3) := by decide +kernel
theorem dX4_keep_29 : decode cX4_keep 29 = .ok (.getfield 158, 3) := by decide +kernel
theorem dX4_keep_32 : decode cX4_keep 32 = .ok (.ireturn, 1) := by decide +kernel
theorem dX4_back_0 : decode cX4_back 0 = .ok (.aload_n 0, 1) := by decide +kernel
theorem dX4_back_1 : decode cX4_back 1 = .ok (.getfield 42, 3) := by decide +kernel
theorem dX4_back_4 : decode cX4_back 4 = .ok (.aload_n 0, 1) := by decide +kernel
theorem dX4_back_5 : decode cX4_back 5 = .ok (.getfield 26, 3) := by decide +kernel
theorem dX4_back_8 : decode cX4_back 8 = .ok (.invokevirtual 154, 3) := by decide +kernel
theorem dX4_back_11 : decode cX4_back 11 = .ok (.ifCond .ne 6, 3) := by decide +kernel
theorem dX4_back_14 : decode cX4_back 14 = .ok (.bipush (-2), 2) := by decide +kernel
theorem dX4_back_16 : decode cX4_back 16 = .ok (.ireturn, 1) := by decide +kernel
theorem dX4_back_17 : decode cX4_back 17 = .ok (.aload_n 0, 1) := by decide +kernel
theorem dX4_back_18 : decode cX4_back 18 = .ok (.getfield 38, 3) := by decide +kernel
theorem dX4_back_21 : decode cX4_back 21 = .ok (.iconst 0, 1) := by decide +kernel
theorem dX4_back_22 : decode cX4_back 22 = .ok (.putfield 158, 3) := by decide +kernel
theorem dX4_back_25 : decode cX4_back 25 = .ok (.aload_n 0, 1) := by decide +kernel
theorem dX4_back_26 : decode cX4_back 26 = .ok (.getfield 42, 3) := by decide +kernel
theorem dX4_back_29 : decode cX4_back 29 = .ok (.getfield 158, 3) := by decide +kernel
theorem dX4_back_32 : decode cX4_back 32 = .ok (.ireturn, 1) := by decide +kernel
theorem dX4_count_0 : decode cX4_count 0 = .ok (.iload_n 1, 1) := by decide +kernel
theorem dX4_count_1 : decode cX4_count 1 = .ok (.tableswitch 135 0 9 #[55, 63, 71, 79, 90, 101, 106, 111, 119, 127], 55) := by decide +kernel
theorem dX4_count_56 : decode cX4_count 56 = .ok (.aload_n 0, 1) := by decide +kernel
theorem dX4_count_57 : decode cX4_count 57 = .ok (.getfield 19, 3) := by decide +kernel
theorem dX4_count_60 : decode cX4_count 60 = .ok (.getfield 80, 3) := by decide +kernel
theorem dX4_count_63 : decode cX4_count 63 = .ok (.ireturn, 1) := by decide +kernel
theorem dX4_count_64 : decode cX4_count 64 = .ok (.aload_n 0, 1) := by decide +kernel
theorem dX4_count_65 : decode cX4_count 65 = .ok (.getfield 26, 3) := by decide +kernel
theorem dX4_count_68 : decode cX4_count 68 = .ok (.invokevirtual 100, 3) := by decide +kernel
theorem dX4_count_71 : decode cX4_count 71 = .ok (.ireturn, 1) := by decide +kernel
theorem dX4_count_72 : decode cX4_count 72 = .ok (.aload_n 0, 1) := by decide +kernel
theorem dX4_count_73 : decode cX4_count 73 = .ok (.getfield 26, 3) := by decide +kernel
theorem dX4_count_76 : decode cX4_count 76 = .ok (.invokevirtual 238, 3) := by decide +kernel
theorem dX4_count_79 : decode cX4_count 79 = .ok (.ireturn, 1) := by decide +kernel
theorem dX4_count_80 : decode cX4_count 80 = .ok (.aload_n 0, 1) := by decide +kernel
theorem dX4_count_81 : decode cX4_count 81 = .ok (.getfield 26, 3) := by decide +kernel
theorem dX4_count_84 : decode cX4_count 84 = .ok (.bipush 30, 2) := by decide +kernel
theorem dX4_count_86 : decode cX4_count 86 = .ok (.iconst 5, 1) := by decide +kernel
theorem dX4_count_87 : decode cX4_count 87 = .ok (.invokevirtual 241, 3) := by decide +kernel
theorem dX4_count_90 : decode cX4_count 90 = .ok (.ireturn, 1) := by decide +kernel
theorem dX4_count_91 : decode cX4_count 91 = .ok (.aload_n 0, 1) := by decide +kernel
theorem dX4_count_92 : decode cX4_count 92 = .ok (.getfield 26, 3) := by decide +kernel
theorem dX4_count_95 : decode cX4_count 95 = .ok (.iconst 0, 1) := by decide +kernel
theorem dX4_count_96 : decode cX4_count 96 = .ok (.bipush 30, 2) := by decide +kernel
theorem dX4_count_98 : decode cX4_count 98 = .ok (.invokevirtual 241, 3) := by decide +kernel
theorem dX4_count_101 : decode cX4_count 101 = .ok (.ireturn, 1) := by decide +kernel
theorem dX4_count_102 : decode cX4_count 102 = .ok (.aload_n 0, 1) := by decide +kernel
theorem dX4_count_103 : decode cX4_count 103 = .ok (.invokevirtual 244, 3) := by decide +kernel
theorem dX4_count_106 : decode cX4_count 106 = .ok (.ireturn, 1) := by decide +kernel
theorem dX4_count_107 : decode cX4_count 107 = .ok (.aload_n 0, 1) := by decide +kernel
theorem dX4_count_108 : decode cX4_count 108 = .ok (.getfield 200, 3) := by decide +kernel
theorem dX4_count_111 : decode cX4_count 111 = .ok (.ireturn, 1) := by decide +kernel
theorem dX4_count_112 : decode cX4_count 112 = .ok (.aload_n 0, 1) := by decide +kernel
theorem dX4_count_113 : decode cX4_count 113 = .ok (.getfield 38, 3) := by decide +kernel
theorem dX4_count_116 : decode cX4_count 116 = .ok (.getfield 158, 3) := by decide +kernel
theorem dX4_count_119 : decode cX4_count 119 = .ok (.ireturn, 1) := by decide +kernel
theorem dX4_count_120 : decode cX4_count 120 = .ok (.aload_n 0, 1) := by decide +kernel
theorem dX4_count_121 : decode cX4_count 121 = .ok (.getfield 42, 3) := by decide +kernel
theorem dX4_count_124 : decode cX4_count 124 = .ok (.getfield 158, 3) := by decide +kernel
theorem dX4_count_127 : decode cX4_count 127 = .ok (.ireturn, 1) := by decide +kernel
theorem dX4_count_128 : decode cX4_count 128 = .ok (.aload_n 0, 1) := by decide +kernel
theorem dX4_count_129 : decode cX4_count 129 = .ok (.getfield 10, 3) := by decide +kernel
theorem dX4_count_132 : decode cX4_count 132 = .ok (.getfield 68, 3) := by decide +kernel
theorem dX4_count_135 : decode cX4_count 135 = .ok (.ireturn, 1) := by decide +kernel
theorem dX4_count_136 : decode cX4_count 136 = .ok (.iconst (-1), 1) := by decide +kernel
theorem dX4_count_137 : decode cX4_count 137 = .ok (.ireturn, 1) := by decide +kernel
theorem dX4_isZeroOrOne_0 : decode cX4_isZeroOrOne 0 = .ok (.iload_n 0, 1) := by decide +kernel
theorem dX4_isZeroOrOne_1 : decode cX4_isZeroOrOne 1 = .ok (.ifCond .eq 8, 3) := by decide +kernel
theorem dX4_isZeroOrOne_4 : decode cX4_isZeroOrOne 4 = .ok (.iload_n 0, 1) := by decide +kernel
theorem dX4_isZeroOrOne_5 : decode cX4_isZeroOrOne 5 = .ok (.iconst 1, 1) := by decide +kernel
theorem dX4_isZeroOrOne_6 : decode cX4_isZeroOrOne 6 = .ok (.if_icmp .ne 7, 3) := by decide +kernel
theorem dX4_isZeroOrOne_9 : decode cX4_isZeroOrOne 9 = .ok (.iconst 1, 1) := by decide +kernel
theorem dX4_isZeroOrOne_10 : decode cX4_isZeroOrOne 10 = .ok (.goto 4, 3) := by decide +kernel
theorem dX4_isZeroOrOne_13 : decode cX4_isZeroOrOne 13 = .ok (.iconst 0, 1) := by decide +kernel
theorem dX4_isZeroOrOne_14 : decode cX4_isZeroOrOne 14 = .ok (.ireturn, 1) := by decide +kernel
theorem dX4_isTrimming_0 : decode cX4_isTrimming 0 = .ok (.iload_n 0, 1) := by decide +kernel
theorem dX4_isTrimming_1 : decode cX4_isTrimming 1 = .ok (.ifCond .lt 12, 3) := by decide +kernel
theorem dX4_isTrimming_4 : decode cX4_isTrimming 4 = .ok (.iload_n 0, 1) := by decide +kernel
theorem dX4_isTrimming_5 : decode cX4_isTrimming 5 = .ok (.iconst 5, 1) := by decide +kernel
theorem dX4_isTrimming_6 : decode cX4_isTrimming 6 = .ok (.if_icmp .ge 7, 3) := by decide +kernel
theorem dX4_isTrimming_9 : decode cX4_isTrimming 9 = .ok (.iconst 1, 1) := by decide +kernel
theorem dX4_isTrimming_10 : decode cX4_isTrimming 10 = .ok (.goto 4, 3) := by decide +kernel
theorem dX4_isTrimming_13 : decode cX4_isTrimming 13 = .ok (.iconst 0, 1) := by decide +kernel
theorem dX4_isTrimming_14 : decode cX4_isTrimming 14 = .ok (.ireturn, 1) := by decide +kernel
theorem dX4_isPins_0 : decode cX4_isPins 0 = .ok (.iload_n 0, 1) := by decide +kernel
theorem dX4_isPins_1 : decode cX4_isPins 1 = .ok (.iconst 1, 1) := by decide +kernel
theorem dX4_isPins_2 : decode cX4_isPins 2 = .ok (.if_icmp .lt 13, 3) := by decide +kernel
theorem dX4_isPins_5 : decode cX4_isPins 5 = .ok (.iload_n 0, 1) := by decide +kernel
theorem dX4_isPins_6 : decode cX4_isPins 6 = .ok (.bipush 20, 2) := by decide +kernel
theorem dX4_isPins_8 : decode cX4_isPins 8 = .ok (.if_icmp .gt 7, 3) := by decide +kernel
theorem dX4_isPins_11 : decode cX4_isPins 11 = .ok (.iconst 1, 1) := by decide +kernel
theorem dX4_isPins_12 : decode cX4_isPins 12 = .ok (.goto 4, 3) := by decide +kernel
theorem dX4_isPins_15 : decode cX4_isPins 15 = .ok (.iconst 0, 1) := by decide +kernel
theorem dX4_isPins_16 : decode cX4_isPins 16 = .ok (.ireturn, 1) := by decide +kernel
theorem dX4_isPlace_0 : decode cX4_isPlace 0 = .ok (.aload_n 0, 1) := by decide +kernel
theorem dX4_isPlace_1 : decode cX4_isPlace 1 = .ok (.getfield 19, 3) := by decide +kernel
theorem dX4_isPlace_4 : decode cX4_isPlace 4 = .ok (.iload_n 1, 1) := by decide +kernel
theorem dX4_isPlace_5 : decode cX4_isPlace 5 = .ok (.invokevirtual 83, 3) := by decide +kernel
theorem dX4_isPlace_8 : decode cX4_isPlace 8 = .ok (.ifCond .eq 14, 3) := by decide +kernel
theorem dX4_isPlace_11 : decode cX4_isPlace 11 = .ok (.iload_n 2, 1) := by decide +kernel
theorem dX4_isPlace_12 : decode cX4_isPlace 12 = .ok (.invokestatic 120, 3) := by decide +kernel
theorem dX4_isPlace_15 : decode cX4_isPlace 15 = .ok (.ifCond .eq 7, 3) := by decide +kernel
theorem dX4_isPlace_18 : decode cX4_isPlace 18 = .ok (.iconst 1, 1) := by decide +kernel
theorem dX4_isPlace_19 : decode cX4_isPlace 19 = .ok (.goto 4, 3) := by decide +kernel
theorem dX4_isPlace_22 : decode cX4_isPlace 22 = .ok (.iconst 0, 1) := by decide +kernel
theorem dX4_isPlace_23 : decode cX4_isPlace 23 = .ok (.ireturn, 1) := by decide +kernel
theorem dX4_layAsTold_0 : decode cX4_layAsTold 0 = .ok (.aload_n 0, 1) := by decide +kernel
theorem dX4_layAsTold_1 : decode cX4_layAsTold 1 = .ok (.getfield 10, 3) := by decide +kernel
theorem dX4_layAsTold_4 : decode cX4_layAsTold 4 = .ok (.invokevirtual 76, 3) := by decide +kernel
theorem dX4_layAsTold_7 : decode cX4_layAsTold 7 = .ok (.bipush (-4), 2) := by decide +kernel
theorem dX4_layAsTold_9 : decode cX4_layAsTold 9 = .ok (.if_icmp .ne 17, 3) := by decide +kernel
theorem dX4_layAsTold_12 : decode cX4_layAsTold 12 = .ok (.aload_n 0, 1) := by decide +kernel
theorem dX4_layAsTold_13 : decode cX4_layAsTold 13 = .ok (.getfield 10, 3) := by decide +kernel
theorem dX4_layAsTold_16 : decode cX4_layAsTold 16 = .ok (.getfield 247, 3) := by decide +kernel
theorem dX4_layAsTold_19 : decode cX4_layAsTold 19 = .ok (.getfield 80, 3) := by decide +kernel
theorem dX4_layAsTold_22 : decode cX4_layAsTold 22 = .ok (.iconst 1, 1) := by decide +kernel
theorem dX4_layAsTold_23 : decode cX4_layAsTold 23 = .ok (.if_icmp .ge 5, 3) := by decide +kernel
theorem dX4_layAsTold_26 : decode cX4_layAsTold 26 = .ok (.iconst 0, 1) := by decide +kernel
theorem dX4_layAsTold_27 : decode cX4_layAsTold 27 = .ok (.ireturn, 1) := by decide +kernel
theorem dX4_layAsTold_28 : decode cX4_layAsTold 28 = .ok (.aload_n 0, 1) := by decide +kernel
theorem dX4_layAsTold_29 : decode cX4_layAsTold 29 = .ok (.getfield 19, 3) := by decide +kernel
theorem dX4_layAsTold_32 : decode cX4_layAsTold 32 = .ok (.aload_n 0, 1) := by decide +kernel
theorem dX4_layAsTold_33 : decode cX4_layAsTold 33 = .ok (.getfield 10, 3) := by decide +kernel
theorem dX4_layAsTold_36 : decode cX4_layAsTold 36 = .ok (.getfield 247, 3) := by decide +kernel
theorem dX4_layAsTold_39 : decode cX4_layAsTold 39 = .ok (.invokevirtual 248, 3) := by decide +kernel
theorem dX4_layAsTold_42 : decode cX4_layAsTold 42 = .ok (.aload_n 0, 1) := by decide +kernel
theorem dX4_layAsTold_43 : decode cX4_layAsTold 43 = .ok (.getfield 26, 3) := by decide +kernel
theorem dX4_layAsTold_46 : decode cX4_layAsTold 46 = .ok (.aload_n 0, 1) := by decide +kernel
theorem dX4_layAsTold_47 : decode cX4_layAsTold 47 = .ok (.getfield 10, 3) := by decide +kernel
theorem dX4_layAsTold_50 : decode cX4_layAsTold 50 = .ok (.getfield 250, 3) := by decide +kernel
theorem dX4_layAsTold_53 : decode cX4_layAsTold 53 = .ok (.invokevirtual 176, 3) := by decide +kernel
theorem dX4_layAsTold_56 : decode cX4_layAsTold 56 = .ok (.aload_n 0, 1) := by decide +kernel
theorem dX4_layAsTold_57 : decode cX4_layAsTold 57 = .ok (.getfield 26, 3) := by decide +kernel
theorem dX4_layAsTold_60 : decode cX4_layAsTold 60 = .ok (.invokevirtual 253, 3) := by decide +kernel
theorem dX4_layAsTold_63 : decode cX4_layAsTold 63 = .ok (.aload_n 0, 1) := by decide +kernel
theorem dX4_layAsTold_64 : decode cX4_layAsTold 64 = .ok (.getfield 38, 3) := by decide +kernel
theorem dX4_layAsTold_67 : decode cX4_layAsTold 67 = .ok (.iconst 0, 1) := by decide +kernel
theorem dX4_layAsTold_68 : decode cX4_layAsTold 68 = .ok (.putfield 158, 3) := by decide +kernel
theorem dX4_layAsTold_71 : decode cX4_layAsTold 71 = .ok (.aload_n 0, 1) := by decide +kernel
theorem dX4_layAsTold_72 : decode cX4_layAsTold 72 = .ok (.getfield 42, 3) := by decide +kernel
theorem dX4_layAsTold_75 : decode cX4_layAsTold 75 = .ok (.iconst 0, 1) := by decide +kernel
theorem dX4_layAsTold_76 : decode cX4_layAsTold 76 = .ok (.putfield 158, 3) := by decide +kernel
theorem dX4_layAsTold_79 : decode cX4_layAsTold 79 = .ok (.aload_n 0, 1) := by decide +kernel
theorem dX4_layAsTold_80 : decode cX4_layAsTold 80 = .ok (.invokevirtual 256, 3) := by decide +kernel
theorem dX4_layAsTold_83 : decode cX4_layAsTold 83 = .ok (.pop, 1) := by decide +kernel
theorem dX4_layAsTold_84 : decode cX4_layAsTold 84 = .ok (.iconst 1, 1) := by decide +kernel
theorem dX4_layAsTold_85 : decode cX4_layAsTold 85 = .ok (.ireturn, 1) := by decide +kernel
theorem dX4_lightOf_0 : decode cX4_lightOf 0 = .ok (.bipush 12, 2) := by decide +kernel
theorem dX4_lightOf_2 : decode cX4_lightOf 2 = .ok (.aload_n 0, 1) := by decide +kernel
theorem dX4_lightOf_3 : decode cX4_lightOf 3 = .ok (.iload_n 1, 1) := by decide +kernel
theorem dX4_lightOf_4 : decode cX4_lightOf 4 = .ok (.iconst 1, 1) := by decide +kernel
theorem dX4_lightOf_5 : decode cX4_lightOf 5 = .ok (.isub, 1) := by decide +kernel
theorem dX4_lightOf_6 : decode cX4_lightOf 6 = .ok (.iload_n 1, 1) := by decide +kernel
theorem dX4_lightOf_7 : decode cX4_lightOf 7 = .ok (.invokevirtual 259, 3) := by decide +kernel
theorem dX4_lightOf_10 : decode cX4_lightOf 10 = .ok (.isub, 1) := by decide +kernel
theorem dX4_lightOf_11 : decode cX4_lightOf 11 = .ok (.aload_n 0, 1) := by decide +kernel
theorem dX4_lightOf_12 : decode cX4_lightOf 12 = .ok (.iload_n 1, 1) := by decide +kernel
theorem dX4_lightOf_13 : decode cX4_lightOf 13 = .ok (.iconst 1, 1) := by decide +kernel
theorem dX4_lightOf_14 : decode cX4_lightOf 14 = .ok (.iadd, 1) := by decide +kernel
theorem dX4_lightOf_15 : decode cX4_lightOf 15 = .ok (.iload_n 1, 1) := by decide +kernel
theorem dX4_lightOf_16 : decode cX4_lightOf 16 = .ok (.invokevirtual 259, 3) := by decide +kernel
theorem dX4_lightOf_19 : decode cX4_lightOf 19 = .ok (.isub, 1) := by decide +kernel
theorem dX4_lightOf_20 : decode cX4_lightOf 20 = .ok (.ireturn, 1) := by decide +kernel
theorem dX4_shadeBy_0 : decode cX4_shadeBy 0 = .ok (.aload_n 0, 1) := by decide +kernel
theorem dX4_shadeBy_1 : decode cX4_shadeBy 1 = .ok (.getfield 19, 3) := by decide +kernel
theorem dX4_shadeBy_4 : decode cX4_shadeBy 4 = .ok (.iload_n 1, 1) := by decide +kernel
theorem dX4_shadeBy_5 : decode cX4_shadeBy 5 = .ok (.invokevirtual 83, 3) := by decide +kernel
theorem dX4_shadeBy_8 : decode cX4_shadeBy 8 = .ok (.ifCond .eq 38, 3) := by decide +kernel
theorem dX4_shadeBy_11 : decode cX4_shadeBy 11 = .ok (.aload_n 0, 1) := by decide +kernel
theorem dX4_shadeBy_12 : decode cX4_shadeBy 12 = .ok (.getfield 19, 3) := by decide +kernel
theorem dX4_shadeBy_15 : decode cX4_shadeBy 15 = .ok (.iload_n 1, 1) := by decide +kernel
theorem dX4_shadeBy_16 : decode cX4_shadeBy 16 = .ok (.invokevirtual 91, 3) := by decide +kernel
theorem dX4_shadeBy_19 : decode cX4_shadeBy 19 = .ok (.aload_n 0, 1) := by decide +kernel
theorem dX4_shadeBy_20 : decode cX4_shadeBy 20 = .ok (.getfield 19, 3) := by decide +kernel
theorem dX4_shadeBy_23 : decode cX4_shadeBy 23 = .ok (.iload_n 2, 1) := by decide +kernel
theorem dX4_shadeBy_24 : decode cX4_shadeBy 24 = .ok (.invokevirtual 91, 3) := by decide +kernel
theorem dX4_shadeBy_27 : decode cX4_shadeBy 27 = .ok (.if_icmp .le 19, 3) := by decide +kernel
theorem dX4_shadeBy_30 : decode cX4_shadeBy 30 = .ok (.aload_n 0, 1) := by decide +kernel
theorem dX4_shadeBy_31 : decode cX4_shadeBy 31 = .ok (.getfield 26, 3) := by decide +kernel
theorem dX4_shadeBy_34 : decode cX4_shadeBy 34 = .ok (.iload_n 1, 1) := by decide +kernel
theorem dX4_shadeBy_35 : decode cX4_shadeBy 35 = .ok (.iconst 3, 1) := by decide +kernel
theorem dX4_shadeBy_36 : decode cX4_shadeBy 36 = .ok (.invokevirtual 140, 3) := by decide +kernel
theorem dX4_shadeBy_39 : decode cX4_shadeBy 39 = .ok (.ifCond .eq 7, 3) := by decide +kernel
theorem dX4_shadeBy_42 : decode cX4_shadeBy 42 = .ok (.iconst 1, 1) := by decide +kernel
theorem dX4_shadeBy_43 : decode cX4_shadeBy 43 = .ok (.goto 4, 3) := by decide +kernel
theorem dX4_shadeBy_46 : decode cX4_shadeBy 46 = .ok (.iconst 0, 1) := by decide +kernel
theorem dX4_shadeBy_47 : decode cX4_shadeBy 47 = .ok (.istore_n 3, 1) := by decide +kernel
theorem dX4_shadeBy_48 : decode cX4_shadeBy 48 = .ok (.iload_n 3, 1) := by decide +kernel
theorem dX4_shadeBy_49 : decode cX4_shadeBy 49 = .ok (.ifCond .eq 7, 3) := by decide +kernel
theorem dX4_shadeBy_52 : decode cX4_shadeBy 52 = .ok (.iconst 3, 1) := by decide +kernel
theorem dX4_shadeBy_53 : decode cX4_shadeBy 53 = .ok (.goto 4, 3) := by decide +kernel
theorem dX4_shadeBy_56 : decode cX4_shadeBy 56 = .ok (.iconst 0, 1) := by decide +kernel
theorem dX4_shadeBy_57 : decode cX4_shadeBy 57 = .ok (.ireturn, 1) := by decide +kernel
theorem dX4_letYearsGoBy_0 : decode cX4_letYearsGoBy 0 = .ok (.iconst 0, 1) := by decide +kernel
theorem dX4_letYearsGoBy_1 : decode cX4_letYearsGoBy 1 = .ok (.istore_n 3, 1) := by decide +kernel
theorem dX4_letYearsGoBy_2 : decode cX4_letYearsGoBy 2 = .ok (.iload_n 3, 1) := by decide +kernel
theorem dX4_letYearsGoBy_3 : decode cX4_letYearsGoBy 3 = .ok (.iload_n 2, 1) := by decide +kernel
theorem dX4_letYearsGoBy_4 : decode cX4_letYearsGoBy 4 = .ok (.if_icmp .ge 17, 3) := by decide +kernel
theorem dX4_letYearsGoBy_7 : decode cX4_letYearsGoBy 7 = .ok (.aload_n 1, 1) := by decide +kernel
theorem dX4_letYearsGoBy_8 : decode cX4_letYearsGoBy 8 = .ok (.aload_n 0, 1) := by decide +kernel
theorem dX4_letYearsGoBy_9 : decode cX4_letYearsGoBy 9 = .ok (.getfield 19, 3) := by decide +kernel
theorem dX4_letYearsGoBy_12 : decode cX4_letYearsGoBy 12 = .ok (.invokevirtual 179, 3) := by decide +kernel
theorem dX4_letYearsGoBy_15 : decode cX4_letYearsGoBy 15 = .ok (.iinc 3 1, 3) := by decide +kernel
theorem dX4_letYearsGoBy_18 : decode cX4_letYearsGoBy 18 = .ok (.goto (-16), 3) := by decide +kernel
theorem dX4_letYearsGoBy_21 : decode cX4_letYearsGoBy 21 = .ok (.return_, 1) := by decide +kernel
theorem dX4_weather_0 : decode cX4_weather 0 = .ok (.aload_n 0, 1) := by decide +kernel
theorem dX4_weather_1 : decode cX4_weather 1 = .ok (.ifnull 15, 3) := by decide +kernel
theorem dX4_weather_4 : decode cX4_weather 4 = .ok (.iload_n 1, 1) := by decide +kernel
theorem dX4_weather_5 : decode cX4_weather 5 = .ok (.ifCond .lt 11, 3) := by decide +kernel
theorem dX4_weather_8 : decode cX4_weather 8 = .ok (.iload_n 1, 1) := by decide +kernel
theorem dX4_weather_9 : decode cX4_weather 9 = .ok (.aload_n 0, 1) := by decide +kernel
theorem dX4_weather_10 : decode cX4_weather 10 = .ok (.arraylength, 1) := by decide +kernel
theorem dX4_weather_11 : decode cX4_weather 11 = .ok (.iconst 5, 1) := by decide +kernel
theorem dX4_weather_12 : decode cX4_weather 12 = .ok (.isub, 1) := by decide +kernel
theorem dX4_weather_13 : decode cX4_weather 13 = .ok (.if_icmp .le 4, 3) := by decide +kernel
theorem dX4_weather_16 : decode cX4_weather 16 = .ok (.return_, 1) := by decide +kernel
theorem dX4_weather_17 : decode cX4_weather 17 = .ok (.iload_n 1, 1) := by decide +kernel
theorem dX4_weather_18 : decode cX4_weather 18 = .ok (.istore 4, 2) := by decide +kernel
theorem dX4_weather_20 : decode cX4_weather 20 = .ok (.iload 4, 2) := by decide +kernel
theorem dX4_weather_22 : decode cX4_weather 22 = .ok (.iload_n 1, 1) := by decide +kernel
theorem dX4_weather_23 : decode cX4_weather 23 = .ok (.iconst 5, 1) := by decide +kernel
theorem dX4_weather_24 : decode cX4_weather 24 = .ok (.iadd, 1) := by decide +kernel
theorem dX4_weather_25 : decode cX4_weather 25 = .ok (.if_icmp .ge 39, 3) := by decide +kernel
theorem dX4_weather_28 : decode cX4_weather 28 = .ok (.aload_n 0, 1) := by decide +kernel
theorem dX4_weather_29 : decode cX4_weather 29 = .ok (.iload 4, 2) := by decide +kernel
theorem dX4_weather_31 : decode cX4_weather 31 = .ok (.aload_n 0, 1) := by decide +kernel
theorem dX4_weather_32 : decode cX4_weather 32 = .ok (.iload 4, 2) := by decide +kernel
theorem dX4_weather_34 : decode cX4_weather 34 = .ok (.iaload, 1) := by decide +kernel
theorem dX4_weather_35 : decode cX4_weather 35 = .ok (.iload_n 2, 1) := by decide +kernel
theorem dX4_weather_36 : decode cX4_weather 36 = .ok (.if_icmp .lt 11, 3) := by decide +kernel
theorem dX4_weather_39 : decode cX4_weather 39 = .ok (.aload_n 0, 1) := by decide +kernel
theorem dX4_weather_40 : decode cX4_weather 40 = .ok (.iload 4, 2) := by decide +kernel
theorem dX4_weather_42 : decode cX4_weather 42 = .ok (.iaload, 1) := by decide +kernel
theorem dX4_weather_43 : decode cX4_weather 43 = .ok (.iconst 1, 1) := by decide +kernel
theorem dX4_weather_44 : decode cX4_weather 44 = .ok (.if_icmp .ge 7, 3) := by decide +kernel
theorem dX4_weather_47 : decode cX4_weather 47 = .ok (.iconst 0, 1) := by decide +kernel
theorem dX4_weather_48 : decode cX4_weather 48 = .ok (.goto 9, 3) := by decide +kernel
theorem dX4_weather_51 : decode cX4_weather 51 = .ok (.aload_n 0, 1) := by decide +kernel
theorem dX4_weather_52 : decode cX4_weather 52 = .ok (.iload 4, 2) := by decide +kernel
theorem dX4_weather_54 : decode cX4_weather 54 = .ok (.iaload, 1) := by decide +kernel
theorem dX4_weather_55 : decode cX4_weather 55 = .ok (.iconst 1, 1) := by decide +kernel
theorem dX4_weather_56 : decode cX4_weather 56 = .ok (.isub, 1) := by decide +kernel
theorem dX4_weather_57 : decode cX4_weather 57 = .ok (.iastore, 1) := by decide +kernel
theorem dX4_weather_58 : decode cX4_weather 58 = .ok (.iinc 4 1, 3) := by decide +kernel
theorem dX4_weather_61 : decode cX4_weather 61 = .ok (.goto (-41), 3) := by decide +kernel
theorem dX4_weather_64 : decode cX4_weather 64 = .ok (.iload_n 3, 1) := by decide +kernel
theorem dX4_weather_65 : decode cX4_weather 65 = .ok (.ifCond .ne 4, 3) := by decide +kernel
theorem dX4_weather_68 : decode cX4_weather 68 = .ok (.return_, 1) := by decide +kernel
theorem dX4_weather_69 : decode cX4_weather 69 = .ok (.iload_n 1, 1) := by decide +kernel
theorem dX4_weather_70 : decode cX4_weather 70 = .ok (.istore 4, 2) := by decide +kernel
theorem dX4_weather_72 : decode cX4_weather 72 = .ok (.iload 4, 2) := by decide +kernel
theorem dX4_weather_74 : decode cX4_weather 74 = .ok (.iload_n 1, 1) := by decide +kernel
theorem dX4_weather_75 : decode cX4_weather 75 = .ok (.iconst 5, 1) := by decide +kernel
theorem dX4_weather_76 : decode cX4_weather 76 = .ok (.iadd, 1) := by decide +kernel
theorem dX4_weather_77 : decode cX4_weather 77 = .ok (.if_icmp .ge 25, 3) := by decide +kernel
theorem dX4_weather_80 : decode cX4_weather 80 = .ok (.aload_n 0, 1) := by decide +kernel
theorem dX4_weather_81 : decode cX4_weather 81 = .ok (.iload 4, 2) := by decide +kernel
theorem dX4_weather_83 : decode cX4_weather 83 = .ok (.iaload, 1) := by decide +kernel
theorem dX4_weather_84 : decode cX4_weather 84 = .ok (.ifCond .le 12, 3) := by decide +kernel
theorem dX4_weather_87 : decode cX4_weather 87 = .ok (.aload_n 0, 1) := by decide +kernel
theorem dX4_weather_88 : decode cX4_weather 88 = .ok (.iload 4, 2) := by decide +kernel
theorem dX4_weather_90 : decode cX4_weather 90 = .ok (.dup2, 1) := by decide +kernel
theorem dX4_weather_91 : decode cX4_weather 91 = .ok (.iaload, 1) := by decide +kernel
theorem dX4_weather_92 : decode cX4_weather 92 = .ok (.iconst 1, 1) := by decide +kernel
theorem dX4_weather_93 : decode cX4_weather 93 = .ok (.isub, 1) := by decide +kernel
theorem dX4_weather_94 : decode cX4_weather 94 = .ok (.iastore, 1) := by decide +kernel
theorem dX4_weather_95 : decode cX4_weather 95 = .ok (.return_, 1) := by decide +kernel
theorem dX4_weather_96 : decode cX4_weather 96 = .ok (.iinc 4 1, 3) := by decide +kernel
theorem dX4_weather_99 : decode cX4_weather 99 = .ok (.goto (-27), 3) := by decide +kernel
theorem dX4_weather_102 : decode cX4_weather 102 = .ok (.return_, 1) := by decide +kernel
theorem dX4_lookAt_0 : decode cX4_lookAt 0 = .ok (.iconst 0, 1) := by decide +kernel
theorem dX4_lookAt_1 : decode cX4_lookAt 1 = .ok (.istore_n 2, 1) := by decide +kernel
theorem dX4_lookAt_2 : decode cX4_lookAt 2 = .ok (.iload_n 2, 1) := by decide +kernel
theorem dX4_lookAt_3 : decode cX4_lookAt 3 = .ok (.bipush 6, 2) := by decide +kernel
theorem dX4_lookAt_5 : decode cX4_lookAt 5 = .ok (.if_icmp .ge 20, 3) := by decide +kernel
theorem dX4_lookAt_8 : decode cX4_lookAt 8 = .ok (.aload_n 0, 1) := by decide +kernel
theorem dX4_lookAt_9 : decode cX4_lookAt 9 = .ok (.getfield 45, 3) := by decide +kernel
theorem dX4_lookAt_12 : decode cX4_lookAt 12 = .ok (.iload_n 2, 1) := by decide +kernel
theorem dX4_lookAt_13 : decode cX4_lookAt 13 = .ok (.aload_n 1, 1) := by decide +kernel
theorem dX4_lookAt_14 : decode cX4_lookAt 14 = .ok (.iload_n 2, 1) := by decide +kernel
theorem dX4_lookAt_15 : decode cX4_lookAt 15 = .ok (.invokevirtual 94, 3) := by decide +kernel
theorem dX4_lookAt_18 : decode cX4_lookAt 18 = .ok (.iastore, 1) := by decide +kernel
theorem dX4_lookAt_19 : decode cX4_lookAt 19 = .ok (.iinc 2 1, 3) := by decide +kernel
theorem dX4_lookAt_22 : decode cX4_lookAt 22 = .ok (.goto (-20), 3) := by decide +kernel
theorem dX4_lookAt_25 : decode cX4_lookAt 25 = .ok (.return_, 1) := by decide +kernel
theorem dX4_pairsAlike_0 : decode cX4_pairsAlike 0 = .ok (.iconst 0, 1) := by decide +kernel
theorem dX4_pairsAlike_1 : decode cX4_pairsAlike 1 = .ok (.istore_n 2, 1) := by decide +kernel
theorem dX4_pairsAlike_2 : decode cX4_pairsAlike 2 = .ok (.iconst 0, 1) := by decide +kernel
theorem dX4_pairsAlike_3 : decode cX4_pairsAlike 3 = .ok (.istore_n 3, 1) := by decide +kernel
theorem dX4_pairsAlike_4 : decode cX4_pairsAlike 4 = .ok (.iload_n 3, 1) := by decide +kernel
theorem dX4_pairsAlike_5 : decode cX4_pairsAlike 5 = .ok (.aload_n 0, 1) := by decide +kernel
theorem dX4_pairsAlike_6 : decode cX4_pairsAlike 6 = .ok (.getfield 19, 3) := by decide +kernel
theorem dX4_pairsAlike_9 : decode cX4_pairsAlike 9 = .ok (.getfield 80, 3) := by decide +kernel
theorem dX4_pairsAlike_12 : decode cX4_pairsAlike 12 = .ok (.if_icmp .ge 54, 3) := by decide +kernel
theorem dX4_pairsAlike_15 : decode cX4_pairsAlike 15 = .ok (.iload_n 3, 1) := by decide +kernel
theorem dX4_pairsAlike_16 : decode cX4_pairsAlike 16 = .ok (.iconst 1, 1) := by decide +kernel
theorem dX4_pairsAlike_17 : decode cX4_pairsAlike 17 = .ok (.iadd, 1) := by decide +kernel
theorem dX4_pairsAlike_18 : decode cX4_pairsAlike 18 = .ok (.istore 4, 2) := by decide +kernel
theorem dX4_pairsAlike_20 : decode cX4_pairsAlike 20 = .ok (.iload 4, 2) := by decide +kernel
theorem dX4_pairsAlike_22 : decode cX4_pairsAlike 22 = .ok (.aload_n 0, 1) := by decide +kernel
theorem dX4_pairsAlike_23 : decode cX4_pairsAlike 23 = .ok (.getfield 19, 3) := by decide +kernel
theorem dX4_pairsAlike_26 : decode cX4_pairsAlike 26 = .ok (.getfield 80, 3) := by decide +kernel
theorem dX4_pairsAlike_29 : decode cX4_pairsAlike 29 = .ok (.if_icmp .ge 31, 3) := by decide +kernel
theorem dX4_pairsAlike_32 : decode cX4_pairsAlike 32 = .ok (.aload_n 0, 1) := by decide +kernel
theorem dX4_pairsAlike_33 : decode cX4_pairsAlike 33 = .ok (.getfield 45, 3) := by decide +kernel
theorem dX4_pairsAlike_36 : decode cX4_pairsAlike 36 = .ok (.iload_n 3, 1) := by decide +kernel
theorem dX4_pairsAlike_37 : decode cX4_pairsAlike 37 = .ok (.iaload, 1) := by decide +kernel
theorem dX4_pairsAlike_38 : decode cX4_pairsAlike 38 = .ok (.aload_n 0, 1) := by decide +kernel
theorem dX4_pairsAlike_39 : decode cX4_pairsAlike 39 = .ok (.getfield 45, 3) := by decide +kernel
theorem dX4_pairsAlike_42 : decode cX4_pairsAlike 42 = .ok (.iload 4, 2) := by decide +kernel
theorem dX4_pairsAlike_44 : decode cX4_pairsAlike 44 = .ok (.iaload, 1) := by decide +kernel
theorem dX4_pairsAlike_45 : decode cX4_pairsAlike 45 = .ok (.ixor, 1) := by decide +kernel
theorem dX4_pairsAlike_46 : decode cX4_pairsAlike 46 = .ok (.iload_n 1, 1) := by decide +kernel
theorem dX4_pairsAlike_47 : decode cX4_pairsAlike 47 = .ok (.iand, 1) := by decide +kernel
theorem dX4_pairsAlike_48 : decode cX4_pairsAlike 48 = .ok (.ifCond .ne 6, 3) := by decide +kernel
theorem dX4_pairsAlike_51 : decode cX4_pairsAlike 51 = .ok (.iinc 2 1, 3) := by decide +kernel
theorem dX4_pairsAlike_54 : decode cX4_pairsAlike 54 = .ok (.iinc 4 1, 3) := by decide +kernel
theorem dX4_pairsAlike_57 : decode cX4_pairsAlike 57 = .ok (.goto (-37), 3) := by decide +kernel
theorem dX4_pairsAlike_60 : decode cX4_pairsAlike 60 = .ok (.iinc 3 1, 3) := by decide +kernel
theorem dX4_pairsAlike_63 : decode cX4_pairsAlike 63 = .ok (.goto (-59), 3) := by decide +kernel
theorem dX4_pairsAlike_66 : decode cX4_pairsAlike 66 = .ok (.iload_n 2, 1) := by decide +kernel
theorem dX4_pairsAlike_67 : decode cX4_pairsAlike 67 = .ok (.ireturn, 1) := by decide +kernel
theorem dX4_firstPairAlike_0 : decode cX4_firstPairAlike 0 = .ok (.iconst 0, 1) := by decide +kernel
theorem dX4_firstPairAlike_1 : decode cX4_firstPairAlike 1 = .ok (.istore_n 1, 1) := by decide +kernel
theorem dX4_firstPairAlike_2 : decode cX4_firstPairAlike 2 = .ok (.iload_n 1, 1) := by decide +kernel
theorem dX4_firstPairAlike_3 : decode cX4_firstPairAlike 3 = .ok (.aload_n 0, 1) := by decide +kernel
theorem dX4_firstPairAlike_4 : decode cX4_firstPairAlike 4 = .ok (.getfield 19, 3) := by decide +kernel
theorem dX4_firstPairAlike_7 : decode cX4_firstPairAlike 7 = .ok (.getfield 80, 3) := by decide +kernel
theorem dX4_firstPairAlike_10 : decode cX4_firstPairAlike 10 = .ok (.if_icmp .ge 52, 3) := by decide +kernel
theorem dX4_firstPairAlike_13 : decode cX4_firstPairAlike 13 = .ok (.iload_n 1, 1) := by decide +kernel
theorem dX4_firstPairAlike_14 : decode cX4_firstPairAlike 14 = .ok (.iconst 1, 1) := by decide +kernel
theorem dX4_firstPairAlike_15 : decode cX4_firstPairAlike 15 = .ok (.iadd, 1) := by decide +kernel
theorem dX4_firstPairAlike_16 : decode cX4_firstPairAlike 16 = .ok (.istore_n 2, 1) := by decide +kernel
theorem dX4_firstPairAlike_17 : decode cX4_firstPairAlike 17 = .ok (.iload_n 2, 1) := by decide +kernel
theorem dX4_firstPairAlike_18 : decode cX4_firstPairAlike 18 = .ok (.aload_n 0, 1) := by decide +kernel
theorem dX4_firstPairAlike_19 : decode cX4_firstPairAlike 19 = .ok (.getfield 19, 3) := by decide +kernel
theorem dX4_firstPairAlike_22 : decode cX4_firstPairAlike 22 = .ok (.getfield 80, 3) := by decide +kernel
theorem dX4_firstPairAlike_25 : decode cX4_firstPairAlike 25 = .ok (.if_icmp .ge 31, 3) := by decide +kernel
theorem dX4_firstPairAlike_28 : decode cX4_firstPairAlike 28 = .ok (.aload_n 0, 1) := by decide +kernel
theorem dX4_firstPairAlike_29 : decode cX4_firstPairAlike 29 = .ok (.getfield 45, 3) := by decide +kernel
theorem dX4_firstPairAlike_32 : decode cX4_firstPairAlike 32 = .ok (.iload_n 1, 1) := by decide +kernel
theorem dX4_firstPairAlike_33 : decode cX4_firstPairAlike 33 = .ok (.iaload, 1) := by decide +kernel
theorem dX4_firstPairAlike_34 : decode cX4_firstPairAlike 34 = .ok (.aload_n 0, 1) := by decide +kernel
theorem dX4_firstPairAlike_35 : decode cX4_firstPairAlike 35 = .ok (.getfield 45, 3) := by decide +kernel
theorem dX4_firstPairAlike_38 : decode cX4_firstPairAlike 38 = .ok (.iload_n 2, 1) := by decide +kernel
theorem dX4_firstPairAlike_39 : decode cX4_firstPairAlike 39 = .ok (.iaload, 1) := by decide +kernel
theorem dX4_firstPairAlike_40 : decode cX4_firstPairAlike 40 = .ok (.if_icmp .ne 10, 3) := by decide +kernel
theorem dX4_firstPairAlike_43 : decode cX4_firstPairAlike 43 = .ok (.bipush 10, 2) := by decide +kernel
theorem dX4_firstPairAlike_45 : decode cX4_firstPairAlike 45 = .ok (.iload_n 1, 1) := by decide +kernel
theorem dX4_firstPairAlike_46 : decode cX4_firstPairAlike 46 = .ok (.imul, 1) := by decide +kernel
theorem dX4_firstPairAlike_47 : decode cX4_firstPairAlike 47 = .ok (.iload_n 2, 1) := by decide +kernel
theorem dX4_firstPairAlike_48 : decode cX4_firstPairAlike 48 = .ok (.iadd, 1) := by decide +kernel
theorem dX4_firstPairAlike_49 : decode cX4_firstPairAlike 49 = .ok (.ireturn, 1) := by decide +kernel
theorem dX4_firstPairAlike_50 : decode cX4_firstPairAlike 50 = .ok (.iinc 2 1, 3) := by decide +kernel
theorem dX4_firstPairAlike_53 : decode cX4_firstPairAlike 53 = .ok (.goto (-36), 3) := by decide +kernel
theorem dX4_firstPairAlike_56 : decode cX4_firstPairAlike 56 = .ok (.iinc 1 1, 3) := by decide +kernel
theorem dX4_firstPairAlike_59 : decode cX4_firstPairAlike 59 = .ok (.goto (-57), 3) := by decide +kernel
theorem dX4_firstPairAlike_62 : decode cX4_firstPairAlike 62 = .ok (.bipush (-4), 2) := by decide +kernel
theorem dX4_firstPairAlike_64 : decode cX4_firstPairAlike 64 = .ok (.ireturn, 1) := by decide +kernel
theorem dX4_knownBy_0 : decode cX4_knownBy 0 = .ok (.iconst 0, 1) := by decide +kernel
theorem dX4_knownBy_1 : decode cX4_knownBy 1 = .ok (.istore_n 2, 1) := by decide +kernel
theorem dX4_knownBy_2 : decode cX4_knownBy 2 = .ok (.iload_n 2, 1) := by decide +kernel
theorem dX4_knownBy_3 : decode cX4_knownBy 3 = .ok (.aload_n 0, 1) := by decide +kernel
theorem dX4_knownBy_4 : decode cX4_knownBy 4 = .ok (.getfield 19, 3) := by decide +kernel
theorem dX4_knownBy_7 : decode cX4_knownBy 7 = .ok (.getfield 80, 3) := by decide +kernel
theorem dX4_knownBy_10 : decode cX4_knownBy 10 = .ok (.if_icmp .ge 23, 3) := by decide +kernel
theorem dX4_knownBy_13 : decode cX4_knownBy 13 = .ok (.aload_n 0, 1) := by decide +kernel
theorem dX4_knownBy_14 : decode cX4_knownBy 14 = .ok (.getfield 26, 3) := by decide +kernel
theorem dX4_knownBy_17 : decode cX4_knownBy 17 = .ok (.iload_n 2, 1) := by decide +kernel
theorem dX4_knownBy_18 : decode cX4_knownBy 18 = .ok (.invokevirtual 94, 3) := by decide +kernel
theorem dX4_knownBy_21 : decode cX4_knownBy 21 = .ok (.iload_n 1, 1) := by decide +kernel
theorem dX4_knownBy_22 : decode cX4_knownBy 22 = .ok (.if_icmp .ne 5, 3) := by decide +kernel
theorem dX4_knownBy_25 : decode cX4_knownBy 25 = .ok (.iload_n 2, 1) := by decide +kernel
theorem dX4_knownBy_26 : decode cX4_knownBy 26 = .ok (.ireturn, 1) := by decide +kernel
theorem dX4_knownBy_27 : decode cX4_knownBy 27 = .ok (.iinc 2 1, 3) := by decide +kernel
theorem dX4_knownBy_30 : decode cX4_knownBy 30 = .ok (.goto (-28), 3) := by decide +kernel
theorem dX4_knownBy_33 : decode cX4_knownBy 33 = .ok (.bipush (-4), 2) := by decide +kernel
theorem dX4_knownBy_35 : decode cX4_knownBy 35 = .ok (.ireturn, 1) := by decide +kernel
theorem dX4_peaksKnownAsThemselves_0 : decode cX4_peaksKnownAsThemselves 0 = .ok (.iconst 0, 1) := by decide +kernel
theorem dX4_peaksKnownAsThemselves_1 : decode cX4_peaksKnownAsThemselves 1 = .ok (.istore_n 1, 1) := by decide +kernel
theorem dX4_peaksKnownAsThemselves_2 : decode cX4_peaksKnownAsThemselves 2 = .ok (.iconst 0, 1) := by decide +kernel
theorem dX4_peaksKnownAsThemselves_3 : decode cX4_peaksKnownAsThemselves 3 = .ok (.istore_n 2, 1) := by decide +kernel
theorem dX4_peaksKnownAsThemselves_4 : decode cX4_peaksKnownAsThemselves 4 = .ok (.iload_n 2, 1) := by decide +kernel
theorem dX4_peaksKnownAsThemselves_5 : decode cX4_peaksKnownAsThemselves 5 = .ok (.aload_n 0, 1) := by decide +kernel
theorem dX4_peaksKnownAsThemselves_6 : decode cX4_peaksKnownAsThemselves 6 = .ok (.getfield 19, 3) := by decide +kernel
theorem dX4_peaksKnownAsThemselves_9 : decode cX4_peaksKnownAsThemselves 9 = .ok (.getfield 80, 3) := by decide +kernel
theorem dX4_peaksKnownAsThemselves_12 : decode cX4_peaksKnownAsThemselves 12 = .ok (.if_icmp .ge 28, 3) := by decide +kernel
theorem dX4_peaksKnownAsThemselves_15 : decode cX4_peaksKnownAsThemselves 15 = .ok (.aload_n 0, 1) := by decide +kernel
theorem dX4_peaksKnownAsThemselves_16 : decode cX4_peaksKnownAsThemselves 16 = .ok (.aload_n 0, 1) := by decide +kernel
theorem dX4_peaksKnownAsThemselves_17 : decode cX4_peaksKnownAsThemselves 17 = .ok (.getfield 26, 3) := by decide +kernel
theorem dX4_peaksKnownAsThemselves_20 : decode cX4_peaksKnownAsThemselves 20 = .ok (.iload_n 2, 1) := by decide +kernel
theorem dX4_peaksKnownAsThemselves_21 : decode cX4_peaksKnownAsThemselves 21 = .ok (.invokevirtual 97, 3) := by decide +kernel
theorem dX4_peaksKnownAsThemselves_24 : decode cX4_peaksKnownAsThemselves 24 = .ok (.invokevirtual 173, 3) := by decide +kernel
theorem dX4_peaksKnownAsThemselves_27 : decode cX4_peaksKnownAsThemselves 27 = .ok (.iload_n 2, 1) := by decide +kernel
theorem dX4_peaksKnownAsThemselves_28 : decode cX4_peaksKnownAsThemselves 28 = .ok (.if_icmp .ne 6, 3) := by decide +kernel
theorem dX4_peaksKnownAsThemselves_31 : decode cX4_peaksKnownAsThemselves 31 = .ok (.iinc 1 1, 3) := by decide +kernel
theorem dX4_peaksKnownAsThemselves_34 : decode cX4_peaksKnownAsThemselves 34 = .ok (.iinc 2 1, 3) := by decide +kernel
theorem dX4_peaksKnownAsThemselves_37 : decode cX4_peaksKnownAsThemselves 37 = .ok (.goto (-33), 3) := by decide +kernel
theorem dX4_peaksKnownAsThemselves_40 : decode cX4_peaksKnownAsThemselves 40 = .ok (.iload_n 1, 1) := by decide +kernel
theorem dX4_peaksKnownAsThemselves_41 : decode cX4_peaksKnownAsThemselves 41 = .ok (.ireturn, 1) := by decide +kernel
theorem dX4_smallestTellingSet_0 : decode cX4_smallestTellingSet 0 = .ok (.aload_n 0, 1) := by decide +kernel
theorem dX4_smallestTellingSet_1 : decode cX4_smallestTellingSet 1 = .ok (.aload_n 0, 1) := by decide +kernel
theorem dX4_smallestTellingSet_2 : decode cX4_smallestTellingSet 2 = .ok (.getfield 26, 3) := by decide +kernel
theorem dX4_smallestTellingSet_5 : decode cX4_smallestTellingSet 5 = .ok (.invokevirtual 164, 3) := by decide +kernel
theorem dX4_smallestTellingSet_8 : decode cX4_smallestTellingSet 8 = .ok (.bipush (-4), 2) := by decide +kernel
theorem dX4_smallestTellingSet_10 : decode cX4_smallestTellingSet 10 = .ok (.istore_n 1, 1) := by decide +kernel
theorem dX4_smallestTellingSet_11 : decode cX4_smallestTellingSet 11 = .ok (.iconst 0, 1) := by decide +kernel
theorem dX4_smallestTellingSet_12 : decode cX4_smallestTellingSet 12 = .ok (.istore_n 2, 1) := by decide +kernel
theorem dX4_smallestTellingSet_13 : decode cX4_smallestTellingSet 13 = .ok (.iload_n 2, 1) := by decide +kernel
theorem dX4_smallestTellingSet_14 : decode cX4_smallestTellingSet 14 = .ok (.bipush 31, 2) := by decide +kernel
theorem dX4_smallestTellingSet_16 : decode cX4_smallestTellingSet 16 = .ok (.if_icmp .gt 46, 3) := by decide +kernel
theorem dX4_smallestTellingSet_19 : decode cX4_smallestTellingSet 19 = .ok (.iload_n 1, 1) := by decide +kernel
theorem dX4_smallestTellingSet_20 : decode cX4_smallestTellingSet 20 = .ok (.bipush (-4), 2) := by decide +kernel
theorem dX4_smallestTellingSet_22 : decode cX4_smallestTellingSet 22 = .ok (.if_icmp .eq 14, 3) := by decide +kernel
theorem dX4_smallestTellingSet_25 : decode cX4_smallestTellingSet 25 = .ok (.iload_n 2, 1) := by decide +kernel
theorem dX4_smallestTellingSet_26 : decode cX4_smallestTellingSet 26 = .ok (.invokestatic 189, 3) := by decide +kernel
theorem dX4_smallestTellingSet_29 : decode cX4_smallestTellingSet 29 = .ok (.iload_n 1, 1) := by decide +kernel
theorem dX4_smallestTellingSet_30 : decode cX4_smallestTellingSet 30 = .ok (.invokestatic 189, 3) := by decide +kernel
theorem dX4_smallestTellingSet_33 : decode cX4_smallestTellingSet 33 = .ok (.if_icmp .ge 7, 3) := by decide +kernel
theorem dX4_smallestTellingSet_36 : decode cX4_smallestTellingSet 36 = .ok (.iconst 1, 1) := by decide +kernel
theorem dX4_smallestTellingSet_37 : decode cX4_smallestTellingSet 37 = .ok (.goto 4, 3) := by decide +kernel
theorem dX4_smallestTellingSet_40 : decode cX4_smallestTellingSet 40 = .ok (.iconst 0, 1) := by decide +kernel
theorem dX4_smallestTellingSet_41 : decode cX4_smallestTellingSet 41 = .ok (.istore_n 3, 1) := by decide +kernel
theorem dX4_smallestTellingSet_42 : decode cX4_smallestTellingSet 42 = .ok (.iload_n 3, 1) := by decide +kernel
theorem dX4_smallestTellingSet_43 : decode cX4_smallestTellingSet 43 = .ok (.ifCond .eq 13, 3) := by decide +kernel
theorem dX4_smallestTellingSet_46 : decode cX4_smallestTellingSet 46 = .ok (.aload_n 0, 1) := by decide +kernel
theorem dX4_smallestTellingSet_47 : decode cX4_smallestTellingSet 47 = .ok (.iload_n 2, 1) := by decide +kernel
theorem dX4_smallestTellingSet_48 : decode cX4_smallestTellingSet 48 = .ok (.invokevirtual 167, 3) := by decide +kernel
theorem dX4_smallestTellingSet_51 : decode cX4_smallestTellingSet 51 = .ok (.ifCond .ne 5, 3) := by decide +kernel
theorem dX4_smallestTellingSet_54 : decode cX4_smallestTellingSet 54 = .ok (.iload_n 2, 1) := by decide +kernel
theorem dX4_smallestTellingSet_55 : decode cX4_smallestTellingSet 55 = .ok (.istore_n 1, 1) := by decide +kernel
theorem dX4_smallestTellingSet_56 : decode cX4_smallestTellingSet 56 = .ok (.iinc 2 1, 3) := by decide +kernel
theorem dX4_smallestTellingSet_59 : decode cX4_smallestTellingSet 59 = .ok (.goto (-46), 3) := by decide +kernel
theorem dX4_smallestTellingSet_62 : decode cX4_smallestTellingSet 62 = .ok (.iload_n 1, 1) := by decide +kernel
theorem dX4_smallestTellingSet_63 : decode cX4_smallestTellingSet 63 = .ok (.ireturn, 1) := by decide +kernel
theorem dX4_pinsMoreAt_0 : decode cX4_pinsMoreAt 0 = .ok (.iconst 0, 1) := by decide +kernel
theorem dX4_pinsMoreAt_1 : decode cX4_pinsMoreAt 1 = .ok (.istore_n 3, 1) := by decide +kernel
theorem dX4_pinsMoreAt_2 : decode cX4_pinsMoreAt 2 = .ok (.aload_n 0, 1) := by decide +kernel
theorem dX4_pinsMoreAt_3 : decode cX4_pinsMoreAt 3 = .ok (.getfield 19, 3) := by decide +kernel
theorem dX4_pinsMoreAt_6 : decode cX4_pinsMoreAt 6 = .ok (.iload_n 1, 1) := by decide +kernel
theorem dX4_pinsMoreAt_7 : decode cX4_pinsMoreAt 7 = .ok (.invokevirtual 262, 3) := by decide +kernel
theorem dX4_pinsMoreAt_10 : decode cX4_pinsMoreAt 10 = .ok (.ifCond .eq 7, 3) := by decide +kernel
theorem dX4_pinsMoreAt_13 : decode cX4_pinsMoreAt 13 = .ok (.iconst 2, 1) := by decide +kernel
theorem dX4_pinsMoreAt_14 : decode cX4_pinsMoreAt 14 = .ok (.goto 4, 3) := by decide +kernel
theorem dX4_pinsMoreAt_17 : decode cX4_pinsMoreAt 17 = .ok (.iconst 1, 1) := by decide +kernel
theorem dX4_pinsMoreAt_18 : decode cX4_pinsMoreAt 18 = .ok (.istore 4, 2) := by decide +kernel
theorem dX4_pinsMoreAt_20 : decode cX4_pinsMoreAt 20 = .ok (.iconst 0, 1) := by decide +kernel
theorem dX4_pinsMoreAt_21 : decode cX4_pinsMoreAt 21 = .ok (.istore 5, 2) := by decide +kernel
theorem dX4_pinsMoreAt_23 : decode cX4_pinsMoreAt 23 = .ok (.iload 5, 2) := by decide +kernel
theorem dX4_pinsMoreAt_25 : decode cX4_pinsMoreAt 25 = .ok (.iconst 5, 1) := by decide +kernel
theorem dX4_pinsMoreAt_26 : decode cX4_pinsMoreAt 26 = .ok (.if_icmp .ge 51, 3) := by decide +kernel
theorem dX4_pinsMoreAt_29 : decode cX4_pinsMoreAt 29 = .ok (.aload_n 0, 1) := by decide +kernel
theorem dX4_pinsMoreAt_30 : decode cX4_pinsMoreAt 30 = .ok (.getfield 26, 3) := by decide +kernel
theorem dX4_pinsMoreAt_33 : decode cX4_pinsMoreAt 33 = .ok (.iload_n 1, 1) := by decide +kernel
theorem dX4_pinsMoreAt_34 : decode cX4_pinsMoreAt 34 = .ok (.iload 5, 2) := by decide +kernel
theorem dX4_pinsMoreAt_36 : decode cX4_pinsMoreAt 36 = .ok (.invokevirtual 140, 3) := by decide +kernel
theorem dX4_pinsMoreAt_39 : decode cX4_pinsMoreAt 39 = .ok (.ifCond .eq 32, 3) := by decide +kernel
theorem dX4_pinsMoreAt_42 : decode cX4_pinsMoreAt 42 = .ok (.iload_n 3, 1) := by decide +kernel
theorem dX4_pinsMoreAt_43 : decode cX4_pinsMoreAt 43 = .ok (.iconst 0, 1) := by decide +kernel
theorem dX4_pinsMoreAt_44 : decode cX4_pinsMoreAt 44 = .ok (.aload_n 0, 1) := by decide +kernel
theorem dX4_pinsMoreAt_45 : decode cX4_pinsMoreAt 45 = .ok (.iload_n 1, 1) := by decide +kernel
theorem dX4_pinsMoreAt_46 : decode cX4_pinsMoreAt 46 = .ok (.iload_n 2, 1) := by decide +kernel
theorem dX4_pinsMoreAt_47 : decode cX4_pinsMoreAt 47 = .ok (.iload 4, 2) := by decide +kernel
theorem dX4_pinsMoreAt_49 : decode cX4_pinsMoreAt 49 = .ok (.invokevirtual 265, 3) := by decide +kernel
theorem dX4_pinsMoreAt_52 : decode cX4_pinsMoreAt 52 = .ok (.aload_n 0, 1) := by decide +kernel
theorem dX4_pinsMoreAt_53 : decode cX4_pinsMoreAt 53 = .ok (.getfield 26, 3) := by decide +kernel
theorem dX4_pinsMoreAt_56 : decode cX4_pinsMoreAt 56 = .ok (.iload_n 1, 1) := by decide +kernel
theorem dX4_pinsMoreAt_57 : decode cX4_pinsMoreAt 57 = .ok (.iload 5, 2) := by decide +kernel
theorem dX4_pinsMoreAt_59 : decode cX4_pinsMoreAt 59 = .ok (.invokevirtual 117, 3) := by decide +kernel
theorem dX4_pinsMoreAt_62 : decode cX4_pinsMoreAt 62 = .ok (.isub, 1) := by decide +kernel
theorem dX4_pinsMoreAt_63 : decode cX4_pinsMoreAt 63 = .ok (.invokestatic 268, 3) := by decide +kernel
theorem dX4_pinsMoreAt_66 : decode cX4_pinsMoreAt 66 = .ok (.iadd, 1) := by decide +kernel
theorem dX4_pinsMoreAt_67 : decode cX4_pinsMoreAt 67 = .ok (.istore_n 3, 1) := by decide +kernel
theorem dX4_pinsMoreAt_68 : decode cX4_pinsMoreAt 68 = .ok (.iconst 1, 1) := by decide +kernel
theorem dX4_pinsMoreAt_69 : decode cX4_pinsMoreAt 69 = .ok (.istore 4, 2) := by decide +kernel
theorem dX4_pinsMoreAt_71 : decode cX4_pinsMoreAt 71 = .ok (.iinc 5 1, 3) := by decide +kernel
theorem dX4_pinsMoreAt_74 : decode cX4_pinsMoreAt 74 = .ok (.goto (-51), 3) := by decide +kernel
theorem dX4_pinsMoreAt_77 : decode cX4_pinsMoreAt 77 = .ok (.iload_n 3, 1) := by decide +kernel
theorem dX4_pinsMoreAt_78 : decode cX4_pinsMoreAt 78 = .ok (.ireturn, 1) := by decide +kernel
theorem dX4_pinsToHold_0 : decode cX4_pinsToHold 0 = .ok (.iload_n 3, 1) := by decide +kernel
theorem dX4_pinsToHold_1 : decode cX4_pinsToHold 1 = .ok (.iload_n 2, 1) := by decide +kernel
theorem dX4_pinsToHold_2 : decode cX4_pinsToHold 2 = .ok (.imul, 1) := by decide +kernel
theorem dX4_pinsToHold_3 : decode cX4_pinsToHold 3 = .ok (.iconst 1, 1) := by decide +kernel
theorem dX4_pinsToHold_4 : decode cX4_pinsToHold 4 = .ok (.iadd, 1) := by decide +kernel
theorem dX4_pinsToHold_5 : decode cX4_pinsToHold 5 = .ok (.istore 4, 2) := by decide +kernel
theorem dX4_pinsToHold_7 : decode cX4_pinsToHold 7 = .ok (.iconst 0, 1) := by decide +kernel
theorem dX4_pinsToHold_8 : decode cX4_pinsToHold 8 = .ok (.istore 5, 2) := by decide +kernel
theorem dX4_pinsToHold_10 : decode cX4_pinsToHold 10 = .ok (.iload 5, 2) := by decide +kernel
theorem dX4_pinsToHold_12 : decode cX4_pinsToHold 12 = .ok (.iload_n 2, 1) := by decide +kernel
theorem dX4_pinsToHold_13 : decode cX4_pinsToHold 13 = .ok (.if_icmp .ge 50, 3) := by decide +kernel
theorem dX4_pinsToHold_16 : decode cX4_pinsToHold 16 = .ok (.aload_n 0, 1) := by decide +kernel
theorem dX4_pinsToHold_17 : decode cX4_pinsToHold 17 = .ok (.getfield 19, 3) := by decide +kernel
theorem dX4_pinsToHold_20 : decode cX4_pinsToHold 20 = .ok (.iload_n 1, 1) := by decide +kernel
theorem dX4_pinsToHold_21 : decode cX4_pinsToHold 21 = .ok (.aload_n 0, 1) := by decide +kernel
theorem dX4_pinsToHold_22 : decode cX4_pinsToHold 22 = .ok (.getfield 19, 3) := by decide +kernel
theorem dX4_pinsToHold_25 : decode cX4_pinsToHold 25 = .ok (.aload_n 0, 1) := by decide +kernel
theorem dX4_pinsToHold_26 : decode cX4_pinsToHold 26 = .ok (.getfield 26, 3) := by decide +kernel
theorem dX4_pinsToHold_29 : decode cX4_pinsToHold 29 = .ok (.invokevirtual 100, 3) := by decide +kernel
theorem dX4_pinsToHold_32 : decode cX4_pinsToHold 32 = .ok (.iload 5, 2) := by decide +kernel
theorem dX4_pinsToHold_34 : decode cX4_pinsToHold 34 = .ok (.iadd, 1) := by decide +kernel
theorem dX4_pinsToHold_35 : decode cX4_pinsToHold 35 = .ok (.invokevirtual 103, 3) := by decide +kernel
theorem dX4_pinsToHold_38 : decode cX4_pinsToHold 38 = .ok (.invokevirtual 106, 3) := by decide +kernel
theorem dX4_pinsToHold_41 : decode cX4_pinsToHold 41 = .ok (.istore 6, 2) := by decide +kernel
theorem dX4_pinsToHold_43 : decode cX4_pinsToHold 43 = .ok (.iload 4, 2) := by decide +kernel
theorem dX4_pinsToHold_45 : decode cX4_pinsToHold 45 = .ok (.iload 6, 2) := by decide +kernel
theorem dX4_pinsToHold_47 : decode cX4_pinsToHold 47 = .ok (.iload_n 3, 1) := by decide +kernel
theorem dX4_pinsToHold_48 : decode cX4_pinsToHold 48 = .ok (.iload 5, 2) := by decide +kernel
theorem dX4_pinsToHold_50 : decode cX4_pinsToHold 50 = .ok (.imul, 1) := by decide +kernel
theorem dX4_pinsToHold_51 : decode cX4_pinsToHold 51 = .ok (.iadd, 1) := by decide +kernel
theorem dX4_pinsToHold_52 : decode cX4_pinsToHold 52 = .ok (.invokestatic 268, 3) := by decide +kernel
theorem dX4_pinsToHold_55 : decode cX4_pinsToHold 55 = .ok (.istore 4, 2) := by decide +kernel
theorem dX4_pinsToHold_57 : decode cX4_pinsToHold 57 = .ok (.iinc 5 1, 3) := by decide +kernel
theorem dX4_pinsToHold_60 : decode cX4_pinsToHold 60 = .ok (.goto (-50), 3) := by decide +kernel
theorem dX4_pinsToHold_63 : decode cX4_pinsToHold 63 = .ok (.iload 4, 2) := by decide +kernel
theorem dX4_pinsToHold_65 : decode cX4_pinsToHold 65 = .ok (.ireturn, 1) := by decide +kernel
theorem dX4_searchAdded_0 : decode cX4_searchAdded 0 = .ok (.aload_n 0, 1) := by decide +kernel
theorem dX4_searchAdded_1 : decode cX4_searchAdded 1 = .ok (.aload_n 0, 1) := by decide +kernel
theorem dX4_searchAdded_2 : decode cX4_searchAdded 2 = .ok (.getfield 26, 3) := by decide +kernel
theorem dX4_searchAdded_5 : decode cX4_searchAdded 5 = .ok (.invokevirtual 164, 3) := by decide +kernel
theorem dX4_searchAdded_8 : decode cX4_searchAdded 8 = .ok (.aload_n 0, 1) := by decide +kernel
theorem dX4_searchAdded_9 : decode cX4_searchAdded 9 = .ok (.bipush 31, 2) := by decide +kernel
theorem dX4_searchAdded_11 : decode cX4_searchAdded 11 = .ok (.invokevirtual 167, 3) := by decide +kernel
theorem dX4_searchAdded_14 : decode cX4_searchAdded 14 = .ok (.ifCond .ne 5, 3) := by decide +kernel
theorem dX4_searchAdded_17 : decode cX4_searchAdded 17 = .ok (.iconst 0, 1) := by decide +kernel
theorem dX4_searchAdded_18 : decode cX4_searchAdded 18 = .ok (.ireturn, 1) := by decide +kernel
theorem dX4_searchAdded_19 : decode cX4_searchAdded 19 = .ok (.aload_n 0, 1) := by decide +kernel
theorem dX4_searchAdded_20 : decode cX4_searchAdded 20 = .ok (.invokevirtual 273, 3) := by decide +kernel
theorem dX4_searchAdded_23 : decode cX4_searchAdded 23 = .ok (.ifCond .eq 5, 3) := by decide +kernel
theorem dX4_searchAdded_26 : decode cX4_searchAdded 26 = .ok (.iconst 1, 1) := by decide +kernel
theorem dX4_searchAdded_27 : decode cX4_searchAdded 27 = .ok (.ireturn, 1) := by decide +kernel
theorem dX4_searchAdded_28 : decode cX4_searchAdded 28 = .ok (.aload_n 0, 1) := by decide +kernel
theorem dX4_searchAdded_29 : decode cX4_searchAdded 29 = .ok (.invokevirtual 276, 3) := by decide +kernel
theorem dX4_searchAdded_32 : decode cX4_searchAdded 32 = .ok (.ifCond .eq 7, 3) := by decide +kernel
theorem dX4_searchAdded_35 : decode cX4_searchAdded 35 = .ok (.iconst 2, 1) := by decide +kernel
theorem dX4_searchAdded_36 : decode cX4_searchAdded 36 = .ok (.goto 5, 3) := by decide +kernel
theorem dX4_searchAdded_39 : decode cX4_searchAdded 39 = .ok (.bipush (-4), 2) := by decide +kernel
theorem dX4_searchAdded_41 : decode cX4_searchAdded 41 = .ok (.ireturn, 1) := by decide +kernel
theorem dX4_isOneAddedEnough_0 : decode cX4_isOneAddedEnough 0 = .ok (.iconst 0, 1) := by decide +kernel
theorem dX4_isOneAddedEnough_1 : decode cX4_isOneAddedEnough 1 = .ok (.istore_n 1, 1) := by decide +kernel
theorem dX4_isOneAddedEnough_2 : decode cX4_isOneAddedEnough 2 = .ok (.iload_n 1, 1) := by decide +kernel
theorem dX4_isOneAddedEnough_3 : decode cX4_isOneAddedEnough 3 = .ok (.aload_n 0, 1) := by decide +kernel
theorem dX4_isOneAddedEnough_4 : decode cX4_isOneAddedEnough 4 = .ok (.getfield 19, 3) := by decide +kernel
theorem dX4_isOneAddedEnough_7 : decode cX4_isOneAddedEnough 7 = .ok (.getfield 80, 3) := by decide +kernel
theorem dX4_isOneAddedEnough_10 : decode cX4_isOneAddedEnough 10 = .ok (.iconst 5, 1) := by decide +kernel
theorem dX4_isOneAddedEnough_11 : decode cX4_isOneAddedEnough 11 = .ok (.imul, 1) := by decide +kernel
theorem dX4_isOneAddedEnough_12 : decode cX4_isOneAddedEnough 12 = .ok (.if_icmp .ge 34, 3) := by decide +kernel
theorem dX4_isOneAddedEnough_15 : decode cX4_isOneAddedEnough 15 = .ok (.aload_n 0, 1) := by decide +kernel
theorem dX4_isOneAddedEnough_16 : decode cX4_isOneAddedEnough 16 = .ok (.iload_n 1, 1) := by decide +kernel
theorem dX4_isOneAddedEnough_17 : decode cX4_isOneAddedEnough 17 = .ok (.invokevirtual 279, 3) := by decide +kernel
theorem dX4_isOneAddedEnough_20 : decode cX4_isOneAddedEnough 20 = .ok (.ifCond .eq 20, 3) := by decide +kernel
theorem dX4_isOneAddedEnough_23 : decode cX4_isOneAddedEnough 23 = .ok (.aload_n 0, 1) := by decide +kernel
theorem dX4_isOneAddedEnough_24 : decode cX4_isOneAddedEnough 24 = .ok (.iload_n 1, 1) := by decide +kernel
theorem dX4_isOneAddedEnough_25 : decode cX4_isOneAddedEnough 25 = .ok (.invokevirtual 282, 3) := by decide +kernel
theorem dX4_isOneAddedEnough_28 : decode cX4_isOneAddedEnough 28 = .ok (.ifCond .eq 12, 3) := by decide +kernel
theorem dX4_isOneAddedEnough_31 : decode cX4_isOneAddedEnough 31 = .ok (.aload_n 0, 1) := by decide +kernel
theorem dX4_isOneAddedEnough_32 : decode cX4_isOneAddedEnough 32 = .ok (.getfield 49, 3) := by decide +kernel
theorem dX4_isOneAddedEnough_35 : decode cX4_isOneAddedEnough 35 = .ok (.iconst 0, 1) := by decide +kernel
theorem dX4_isOneAddedEnough_36 : decode cX4_isOneAddedEnough 36 = .ok (.iload_n 1, 1) := by decide +kernel
theorem dX4_isOneAddedEnough_37 : decode cX4_isOneAddedEnough 37 = .ok (.iastore, 1) := by decide +kernel
theorem dX4_isOneAddedEnough_38 : decode cX4_isOneAddedEnough 38 = .ok (.iconst 1, 1) := by decide +kernel
theorem dX4_isOneAddedEnough_39 : decode cX4_isOneAddedEnough 39 = .ok (.ireturn, 1) := by decide +kernel
theorem dX4_isOneAddedEnough_40 : decode cX4_isOneAddedEnough 40 = .ok (.iinc 1 1, 3) := by decide +kernel
theorem dX4_isOneAddedEnough_43 : decode cX4_isOneAddedEnough 43 = .ok (.goto (-41), 3) := by decide +kernel
theorem dX4_isOneAddedEnough_46 : decode cX4_isOneAddedEnough 46 = .ok (.iconst 0, 1) := by decide +kernel
theorem dX4_isOneAddedEnough_47 : decode cX4_isOneAddedEnough 47 = .ok (.ireturn, 1) := by decide +kernel
theorem dX4_areTwoAddedEnough_0 : decode cX4_areTwoAddedEnough 0 = .ok (.iconst 0, 1) := by decide +kernel
theorem dX4_areTwoAddedEnough_1 : decode cX4_areTwoAddedEnough 1 = .ok (.istore_n 1, 1) := by decide +kernel
theorem dX4_areTwoAddedEnough_2 : decode cX4_areTwoAddedEnough 2 = .ok (.iload_n 1, 1) := by decide +kernel
theorem dX4_areTwoAddedEnough_3 : decode cX4_areTwoAddedEnough 3 = .ok (.aload_n 0, 1) := by decide +kernel
theorem dX4_areTwoAddedEnough_4 : decode cX4_areTwoAddedEnough 4 = .ok (.getfield 19, 3) := by decide +kernel
theorem dX4_areTwoAddedEnough_7 : decode cX4_areTwoAddedEnough 7 = .ok (.getfield 80, 3) := by decide +kernel
theorem dX4_areTwoAddedEnough_10 : decode cX4_areTwoAddedEnough 10 = .ok (.iconst 5, 1) := by decide +kernel
theorem dX4_areTwoAddedEnough_11 : decode cX4_areTwoAddedEnough 11 = .ok (.imul, 1) := by decide +kernel
theorem dX4_areTwoAddedEnough_12 : decode cX4_areTwoAddedEnough 12 = .ok (.if_icmp .ge 46, 3) := by decide +kernel
theorem dX4_areTwoAddedEnough_15 : decode cX4_areTwoAddedEnough 15 = .ok (.aload_n 0, 1) := by decide +kernel
theorem dX4_areTwoAddedEnough_16 : decode cX4_areTwoAddedEnough 16 = .ok (.iload_n 1, 1) := by decide +kernel
theorem dX4_areTwoAddedEnough_17 : decode cX4_areTwoAddedEnough 17 = .ok (.invokevirtual 279, 3) := by decide +kernel
theorem dX4_areTwoAddedEnough_20 : decode cX4_areTwoAddedEnough 20 = .ok (.ifCond .eq 32, 3) := by decide +kernel
theorem dX4_areTwoAddedEnough_23 : decode cX4_areTwoAddedEnough 23 = .ok (.aload_n 0, 1) := by decide +kernel
theorem dX4_areTwoAddedEnough_24 : decode cX4_areTwoAddedEnough 24 = .ok (.iload_n 1, 1) := by decide +kernel
theorem dX4_areTwoAddedEnough_25 : decode cX4_areTwoAddedEnough 25 = .ok (.invokevirtual 285, 3) := by decide +kernel
theorem dX4_areTwoAddedEnough_28 : decode cX4_areTwoAddedEnough 28 = .ok (.aload_n 0, 1) := by decide +kernel
theorem dX4_areTwoAddedEnough_29 : decode cX4_areTwoAddedEnough 29 = .ok (.iload_n 1, 1) := by decide +kernel
theorem dX4_areTwoAddedEnough_30 : decode cX4_areTwoAddedEnough 30 = .ok (.invokevirtual 288, 3) := by decide +kernel
theorem dX4_areTwoAddedEnough_33 : decode cX4_areTwoAddedEnough 33 = .ok (.istore_n 2, 1) := by decide +kernel
theorem dX4_areTwoAddedEnough_34 : decode cX4_areTwoAddedEnough 34 = .ok (.aload_n 0, 1) := by decide +kernel
theorem dX4_areTwoAddedEnough_35 : decode cX4_areTwoAddedEnough 35 = .ok (.iload_n 1, 1) := by decide +kernel
theorem dX4_areTwoAddedEnough_36 : decode cX4_areTwoAddedEnough 36 = .ok (.invokevirtual 285, 3) := by decide +kernel
theorem dX4_areTwoAddedEnough_39 : decode cX4_areTwoAddedEnough 39 = .ok (.iload_n 2, 1) := by decide +kernel
theorem dX4_areTwoAddedEnough_40 : decode cX4_areTwoAddedEnough 40 = .ok (.ifCond .eq 12, 3) := by decide +kernel
theorem dX4_areTwoAddedEnough_43 : decode cX4_areTwoAddedEnough 43 = .ok (.aload_n 0, 1) := by decide +kernel
theorem dX4_areTwoAddedEnough_44 : decode cX4_areTwoAddedEnough 44 = .ok (.getfield 49, 3) := by decide +kernel
theorem dX4_areTwoAddedEnough_47 : decode cX4_areTwoAddedEnough 47 = .ok (.iconst 0, 1) := by decide +kernel
theorem dX4_areTwoAddedEnough_48 : decode cX4_areTwoAddedEnough 48 = .ok (.iload_n 1, 1) := by decide +kernel
theorem dX4_areTwoAddedEnough_49 : decode cX4_areTwoAddedEnough 49 = .ok (.iastore, 1) := by decide +kernel
theorem dX4_areTwoAddedEnough_50 : decode cX4_areTwoAddedEnough 50 = .ok (.iconst 1, 1) := by decide +kernel
theorem dX4_areTwoAddedEnough_51 : decode cX4_areTwoAddedEnough 51 = .ok (.ireturn, 1) := by decide +kernel
theorem dX4_areTwoAddedEnough_52 : decode cX4_areTwoAddedEnough 52 = .ok (.iinc 1 1, 3) := by decide +kernel
theorem dX4_areTwoAddedEnough_55 : decode cX4_areTwoAddedEnough 55 = .ok (.goto (-53), 3) := by decide +kernel
theorem dX4_areTwoAddedEnough_58 : decode cX4_areTwoAddedEnough 58 = .ok (.iconst 0, 1) := by decide +kernel
theorem dX4_areTwoAddedEnough_59 : decode cX4_areTwoAddedEnough 59 = .ok (.ireturn, 1) := by decide +kernel
theorem dX4_findSecondAdded_0 : decode cX4_findSecondAdded 0 = .ok (.iload_n 1, 1) := by decide +kernel
theorem dX4_findSecondAdded_1 : decode cX4_findSecondAdded 1 = .ok (.iconst 1, 1) := by decide +kernel
theorem dX4_findSecondAdded_2 : decode cX4_findSecondAdded 2 = .ok (.iadd, 1) := by decide +kernel
theorem dX4_findSecondAdded_3 : decode cX4_findSecondAdded 3 = .ok (.istore_n 2, 1) := by decide +kernel
theorem dX4_findSecondAdded_4 : decode cX4_findSecondAdded 4 = .ok (.iload_n 2, 1) := by decide +kernel
theorem dX4_findSecondAdded_5 : decode cX4_findSecondAdded 5 = .ok (.aload_n 0, 1) := by decide +kernel
theorem dX4_findSecondAdded_6 : decode cX4_findSecondAdded 6 = .ok (.getfield 19, 3) := by decide +kernel
theorem dX4_findSecondAdded_9 : decode cX4_findSecondAdded 9 = .ok (.getfield 80, 3) := by decide +kernel
theorem dX4_findSecondAdded_12 : decode cX4_findSecondAdded 12 = .ok (.iconst 5, 1) := by decide +kernel
theorem dX4_findSecondAdded_13 : decode cX4_findSecondAdded 13 = .ok (.imul, 1) := by decide +kernel
theorem dX4_findSecondAdded_14 : decode cX4_findSecondAdded 14 = .ok (.if_icmp .ge 79, 3) := by decide +kernel
theorem dX4_findSecondAdded_17 : decode cX4_findSecondAdded 17 = .ok (.iload_n 2, 1) := by decide +kernel
theorem dX4_findSecondAdded_18 : decode cX4_findSecondAdded 18 = .ok (.iconst 5, 1) := by decide +kernel
theorem dX4_findSecondAdded_19 : decode cX4_findSecondAdded 19 = .ok (.irem, 1) := by decide +kernel
theorem dX4_findSecondAdded_20 : decode cX4_findSecondAdded 20 = .ok (.iload_n 1, 1) := by decide +kernel
theorem dX4_findSecondAdded_21 : decode cX4_findSecondAdded 21 = .ok (.iconst 5, 1) := by decide +kernel
theorem dX4_findSecondAdded_22 : decode cX4_findSecondAdded 22 = .ok (.irem, 1) := by decide +kernel
theorem dX4_findSecondAdded_23 : decode cX4_findSecondAdded 23 = .ok (.if_icmp .ne 7, 3) := by decide +kernel
theorem dX4_findSecondAdded_26 : decode cX4_findSecondAdded 26 = .ok (.iconst 1, 1) := by decide +kernel
theorem dX4_findSecondAdded_27 : decode cX4_findSecondAdded 27 = .ok (.goto 4, 3) := by decide +kernel
theorem dX4_findSecondAdded_30 : decode cX4_findSecondAdded 30 = .ok (.iconst 0, 1) := by decide +kernel
theorem dX4_findSecondAdded_31 : decode cX4_findSecondAdded 31 = .ok (.istore_n 3, 1) := by decide +kernel
theorem dX4_findSecondAdded_32 : decode cX4_findSecondAdded 32 = .ok (.iload_n 3, 1) := by decide +kernel
theorem dX4_findSecondAdded_33 : decode cX4_findSecondAdded 33 = .ok (.ifCond .eq 17, 3) := by decide +kernel
theorem dX4_findSecondAdded_36 : decode cX4_findSecondAdded 36 = .ok (.aload_n 0, 1) := by decide +kernel
theorem dX4_findSecondAdded_37 : decode cX4_findSecondAdded 37 = .ok (.getfield 26, 3) := by decide +kernel
theorem dX4_findSecondAdded_40 : decode cX4_findSecondAdded 40 = .ok (.iload_n 2, 1) := by decide +kernel
theorem dX4_findSecondAdded_41 : decode cX4_findSecondAdded 41 = .ok (.iconst 5, 1) := by decide +kernel
theorem dX4_findSecondAdded_42 : decode cX4_findSecondAdded 42 = .ok (.irem, 1) := by decide +kernel
theorem dX4_findSecondAdded_43 : decode cX4_findSecondAdded 43 = .ok (.invokevirtual 123, 3) := by decide +kernel
theorem dX4_findSecondAdded_46 : decode cX4_findSecondAdded 46 = .ok (.iconst 2, 1) := by decide +kernel
theorem dX4_findSecondAdded_47 : decode cX4_findSecondAdded 47 = .ok (.if_icmp .lt 7, 3) := by decide +kernel
theorem dX4_findSecondAdded_50 : decode cX4_findSecondAdded 50 = .ok (.iconst 1, 1) := by decide +kernel
theorem dX4_findSecondAdded_51 : decode cX4_findSecondAdded 51 = .ok (.goto 4, 3) := by decide +kernel
theorem dX4_findSecondAdded_54 : decode cX4_findSecondAdded 54 = .ok (.iconst 0, 1) := by decide +kernel
theorem dX4_findSecondAdded_55 : decode cX4_findSecondAdded 55 = .ok (.istore 4, 2) := by decide +kernel
theorem dX4_findSecondAdded_57 : decode cX4_findSecondAdded 57 = .ok (.iload 4, 2) := by decide +kernel
theorem dX4_findSecondAdded_59 : decode cX4_findSecondAdded 59 = .ok (.ifCond .eq 28, 3) := by decide +kernel
theorem dX4_findSecondAdded_62 : decode cX4_findSecondAdded 62 = .ok (.aload_n 0, 1) := by decide +kernel
theorem dX4_findSecondAdded_63 : decode cX4_findSecondAdded 63 = .ok (.iload_n 2, 1) := by decide +kernel
theorem dX4_findSecondAdded_64 : decode cX4_findSecondAdded 64 = .ok (.invokevirtual 279, 3) := by decide +kernel
theorem dX4_findSecondAdded_67 : decode cX4_findSecondAdded 67 = .ok (.ifCond .eq 20, 3) := by decide +kernel
theorem dX4_findSecondAdded_70 : decode cX4_findSecondAdded 70 = .ok (.aload_n 0, 1) := by decide +kernel
theorem dX4_findSecondAdded_71 : decode cX4_findSecondAdded 71 = .ok (.iload_n 2, 1) := by decide +kernel
theorem dX4_findSecondAdded_72 : decode cX4_findSecondAdded 72 = .ok (.invokevirtual 282, 3) := by decide +kernel
theorem dX4_findSecondAdded_75 : decode cX4_findSecondAdded 75 = .ok (.ifCond .eq 12, 3) := by decide +kernel
theorem dX4_findSecondAdded_78 : decode cX4_findSecondAdded 78 = .ok (.aload_n 0, 1) := by decide +kernel
theorem dX4_findSecondAdded_79 : decode cX4_findSecondAdded 79 = .ok (.getfield 49, 3) := by decide +kernel
theorem dX4_findSecondAdded_82 : decode cX4_findSecondAdded 82 = .ok (.iconst 1, 1) := by decide +kernel
theorem dX4_findSecondAdded_83 : decode cX4_findSecondAdded 83 = .ok (.iload_n 2, 1) := by decide +kernel
theorem dX4_findSecondAdded_84 : decode cX4_findSecondAdded 84 = .ok (.iastore, 1) := by decide +kernel
theorem dX4_findSecondAdded_85 : decode cX4_findSecondAdded 85 = .ok (.iconst 1, 1) := by decide +kernel
theorem dX4_findSecondAdded_86 : decode cX4_findSecondAdded 86 = .ok (.ireturn, 1) := by decide +kernel
theorem dX4_findSecondAdded_87 : decode cX4_findSecondAdded 87 = .ok (.iinc 2 1, 3) := by decide +kernel
theorem dX4_findSecondAdded_90 : decode cX4_findSecondAdded 90 = .ok (.goto (-86), 3) := by decide +kernel
theorem dX4_findSecondAdded_93 : decode cX4_findSecondAdded 93 = .ok (.iconst 0, 1) := by decide +kernel
theorem dX4_findSecondAdded_94 : decode cX4_findSecondAdded 94 = .ok (.ireturn, 1) := by decide +kernel
theorem dX4_canPutAt_0 : decode cX4_canPutAt 0 = .ok (.aload_n 0, 1) := by decide +kernel
theorem dX4_canPutAt_1 : decode cX4_canPutAt 1 = .ok (.getfield 26, 3) := by decide +kernel
theorem dX4_canPutAt_4 : decode cX4_canPutAt 4 = .ok (.iload_n 1, 1) := by decide +kernel
theorem dX4_canPutAt_5 : decode cX4_canPutAt 5 = .ok (.iconst 5, 1) := by decide +kernel
theorem dX4_canPutAt_6 : decode cX4_canPutAt 6 = .ok (.idiv, 1) := by decide +kernel
theorem dX4_canPutAt_7 : decode cX4_canPutAt 7 = .ok (.iload_n 1, 1) := by decide +kernel
theorem dX4_canPutAt_8 : decode cX4_canPutAt 8 = .ok (.iconst 5, 1) := by decide +kernel
theorem dX4_canPutAt_9 : decode cX4_canPutAt 9 = .ok (.irem, 1) := by decide +kernel
theorem dX4_canPutAt_10 : decode cX4_canPutAt 10 = .ok (.invokevirtual 129, 3) := by decide +kernel
theorem dX4_canPutAt_13 : decode cX4_canPutAt 13 = .ok (.ireturn, 1) := by decide +kernel
theorem dX4_isApartWith_0 : decode cX4_isApartWith 0 = .ok (.aload_n 0, 1) := by decide +kernel
theorem dX4_isApartWith_1 : decode cX4_isApartWith 1 = .ok (.iload_n 1, 1) := by decide +kernel
theorem dX4_isApartWith_2 : decode cX4_isApartWith 2 = .ok (.invokevirtual 285, 3) := by decide +kernel
theorem dX4_isApartWith_5 : decode cX4_isApartWith 5 = .ok (.aload_n 0, 1) := by decide +kernel
theorem dX4_isApartWith_6 : decode cX4_isApartWith 6 = .ok (.bipush 31, 2) := by decide +kernel
theorem dX4_isApartWith_8 : decode cX4_isApartWith 8 = .ok (.invokevirtual 167, 3) := by decide +kernel
theorem dX4_isApartWith_11 : decode cX4_isApartWith 11 = .ok (.ifCond .ne 7, 3) := by decide +kernel
theorem dX4_isApartWith_14 : decode cX4_isApartWith 14 = .ok (.iconst 1, 1) := by decide +kernel
theorem dX4_isApartWith_15 : decode cX4_isApartWith 15 = .ok (.goto 4, 3) := by decide +kernel
theorem dX4_isApartWith_18 : decode cX4_isApartWith 18 = .ok (.iconst 0, 1) := by decide +kernel
theorem dX4_isApartWith_19 : decode cX4_isApartWith 19 = .ok (.istore_n 2, 1) := by decide +kernel
theorem dX4_isApartWith_20 : decode cX4_isApartWith 20 = .ok (.aload_n 0, 1) := by decide +kernel
theorem dX4_isApartWith_21 : decode cX4_isApartWith 21 = .ok (.iload_n 1, 1) := by decide +kernel
theorem dX4_isApartWith_22 : decode cX4_isApartWith 22 = .ok (.invokevirtual 285, 3) := by decide +kernel
theorem dX4_isApartWith_25 : decode cX4_isApartWith 25 = .ok (.iload_n 2, 1) := by decide +kernel
theorem dX4_isApartWith_26 : decode cX4_isApartWith 26 = .ok (.ireturn, 1) := by decide +kernel
theorem dX4_turn_0 : decode cX4_turn 0 = .ok (.iload_n 1, 1) := by decide +kernel
theorem dX4_turn_1 : decode cX4_turn 1 = .ok (.ifCond .lt 25, 3) := by decide +kernel
theorem dX4_turn_4 : decode cX4_turn 4 = .ok (.iload_n 1, 1) := by decide +kernel
theorem dX4_turn_5 : decode cX4_turn 5 = .ok (.bipush 30, 2) := by decide +kernel
theorem dX4_turn_7 : decode cX4_turn 7 = .ok (.if_icmp .ge 19, 3) := by decide +kernel
theorem dX4_turn_10 : decode cX4_turn 10 = .ok (.aload_n 0, 1) := by decide +kernel
theorem dX4_turn_11 : decode cX4_turn 11 = .ok (.getfield 45, 3) := by decide +kernel
theorem dX4_turn_14 : decode cX4_turn 14 = .ok (.iload_n 1, 1) := by decide +kernel
theorem dX4_turn_15 : decode cX4_turn 15 = .ok (.iconst 5, 1) := by decide +kernel
theorem dX4_turn_16 : decode cX4_turn 16 = .ok (.idiv, 1) := by decide +kernel
theorem dX4_turn_17 : decode cX4_turn 17 = .ok (.dup2, 1) := by decide +kernel
theorem dX4_turn_18 : decode cX4_turn 18 = .ok (.iaload, 1) := by decide +kernel
theorem dX4_turn_19 : decode cX4_turn 19 = .ok (.iconst 1, 1) := by decide +kernel
theorem dX4_turn_20 : decode cX4_turn 20 = .ok (.iload_n 1, 1) := by decide +kernel
theorem dX4_turn_21 : decode cX4_turn 21 = .ok (.iconst 5, 1) := by decide +kernel
theorem dX4_turn_22 : decode cX4_turn 22 = .ok (.irem, 1) := by decide +kernel
theorem dX4_turn_23 : decode cX4_turn 23 = .ok (.ishl, 1) := by decide +kernel
theorem dX4_turn_24 : decode cX4_turn 24 = .ok (.ixor, 1) := by decide +kernel
theorem dX4_turn_25 : decode cX4_turn 25 = .ok (.iastore, 1) := by decide +kernel
theorem dX4_turn_26 : decode cX4_turn 26 = .ok (.return_, 1) := by decide +kernel
theorem dX4_tenTimesPeakAndTrimming_0 : decode cX4_tenTimesPeakAndTrimming 0 = .ok (.bipush 10, 2) := by decide +kernel
theorem dX4_tenTimesPeakAndTrimming_2 : decode cX4_tenTimesPeakAndTrimming 2 = .ok (.iload_n 0, 1) := by decide +kernel
theorem dX4_tenTimesPeakAndTrimming_3 : decode cX4_tenTimesPeakAndTrimming 3 = .ok (.iconst 5, 1) := by decide +kernel
theorem dX4_tenTimesPeakAndTrimming_4 : decode cX4_tenTimesPeakAndTrimming 4 = .ok (.idiv, 1) := by decide +kernel
theorem dX4_tenTimesPeakAndTrimming_5 : decode cX4_tenTimesPeakAndTrimming 5 = .ok (.imul, 1) := by decide +kernel
theorem dX4_tenTimesPeakAndTrimming_6 : decode cX4_tenTimesPeakAndTrimming 6 = .ok (.iload_n 0, 1) := by decide +kernel
theorem dX4_tenTimesPeakAndTrimming_7 : decode cX4_tenTimesPeakAndTrimming 7 = .ok (.iconst 5, 1) := by decide +kernel
theorem dX4_tenTimesPeakAndTrimming_8 : decode cX4_tenTimesPeakAndTrimming 8 = .ok (.irem, 1) := by decide +kernel
theorem dX4_tenTimesPeakAndTrimming_9 : decode cX4_tenTimesPeakAndTrimming 9 = .ok (.iadd, 1) := by decide +kernel
theorem dX4_tenTimesPeakAndTrimming_10 : decode cX4_tenTimesPeakAndTrimming 10 = .ok (.ireturn, 1) := by decide +kernel
theorem dX4_bestToAsk_0 : decode cX4_bestToAsk 0 = .ok (.bipush (-4), 2) := by decide +kernel
theorem dX4_bestToAsk_2 : decode cX4_bestToAsk 2 = .ok (.istore_n 2, 1) := by decide +kernel
theorem dX4_bestToAsk_3 : decode cX4_bestToAsk 3 = .ok (.iconst 0, 1) := by decide +kernel
theorem dX4_bestToAsk_4 : decode cX4_bestToAsk 4 = .ok (.istore_n 3, 1) := by decide +kernel
theorem dX4_bestToAsk_5 : decode cX4_bestToAsk 5 = .ok (.iload_n 3, 1) := by decide +kernel
theorem dX4_bestToAsk_6 : decode cX4_bestToAsk 6 = .ok (.iconst 5, 1) := by decide +kernel
theorem dX4_bestToAsk_7 : decode cX4_bestToAsk 7 = .ok (.if_icmp .ge 61, 3) := by decide +kernel
theorem dX4_bestToAsk_10 : decode cX4_bestToAsk 10 = .ok (.aload_n 0, 1) := by decide +kernel
theorem dX4_bestToAsk_11 : decode cX4_bestToAsk 11 = .ok (.getfield 203, 3) := by decide +kernel
theorem dX4_bestToAsk_14 : decode cX4_bestToAsk 14 = .ok (.aload_n 0, 1) := by decide +kernel
theorem dX4_bestToAsk_15 : decode cX4_bestToAsk 15 = .ok (.getfield 206, 3) := by decide +kernel
theorem dX4_bestToAsk_18 : decode cX4_bestToAsk 18 = .ok (.ior, 1) := by decide +kernel
theorem dX4_bestToAsk_19 : decode cX4_bestToAsk 19 = .ok (.iload_n 3, 1) := by decide +kernel
theorem dX4_bestToAsk_20 : decode cX4_bestToAsk 20 = .ok (.ishr, 1) := by decide +kernel
theorem dX4_bestToAsk_21 : decode cX4_bestToAsk 21 = .ok (.iconst 1, 1) := by decide +kernel
theorem dX4_bestToAsk_22 : decode cX4_bestToAsk 22 = .ok (.iand, 1) := by decide +kernel
theorem dX4_bestToAsk_23 : decode cX4_bestToAsk 23 = .ok (.iconst 1, 1) := by decide +kernel
theorem dX4_bestToAsk_24 : decode cX4_bestToAsk 24 = .ok (.if_icmp .ne 7, 3) := by decide +kernel
theorem dX4_bestToAsk_27 : decode cX4_bestToAsk 27 = .ok (.iconst 1, 1) := by decide +kernel
theorem dX4_bestToAsk_28 : decode cX4_bestToAsk 28 = .ok (.goto 4, 3) := by decide +kernel
theorem dX4_bestToAsk_31 : decode cX4_bestToAsk 31 = .ok (.iconst 0, 1) := by decide +kernel
theorem dX4_bestToAsk_32 : decode cX4_bestToAsk 32 = .ok (.istore 4, 2) := by decide +kernel
theorem dX4_bestToAsk_34 : decode cX4_bestToAsk 34 = .ok (.iload 4, 2) := by decide +kernel
theorem dX4_bestToAsk_36 : decode cX4_bestToAsk 36 = .ok (.ifCond .ne 26, 3) := by decide +kernel
theorem dX4_bestToAsk_39 : decode cX4_bestToAsk 39 = .ok (.iload_n 2, 1) := by decide +kernel
theorem dX4_bestToAsk_40 : decode cX4_bestToAsk 40 = .ok (.bipush (-4), 2) := by decide +kernel
theorem dX4_bestToAsk_42 : decode cX4_bestToAsk 42 = .ok (.if_icmp .eq 18, 3) := by decide +kernel
theorem dX4_bestToAsk_45 : decode cX4_bestToAsk 45 = .ok (.aload_n 0, 1) := by decide +kernel
theorem dX4_bestToAsk_46 : decode cX4_bestToAsk 46 = .ok (.iload_n 1, 1) := by decide +kernel
theorem dX4_bestToAsk_47 : decode cX4_bestToAsk 47 = .ok (.iload_n 3, 1) := by decide +kernel
theorem dX4_bestToAsk_48 : decode cX4_bestToAsk 48 = .ok (.invokevirtual 215, 3) := by decide +kernel
theorem dX4_bestToAsk_51 : decode cX4_bestToAsk 51 = .ok (.aload_n 0, 1) := by decide +kernel
theorem dX4_bestToAsk_52 : decode cX4_bestToAsk 52 = .ok (.iload_n 1, 1) := by decide +kernel
theorem dX4_bestToAsk_53 : decode cX4_bestToAsk 53 = .ok (.iload_n 2, 1) := by decide +kernel
theorem dX4_bestToAsk_54 : decode cX4_bestToAsk 54 = .ok (.invokevirtual 215, 3) := by decide +kernel
theorem dX4_bestToAsk_57 : decode cX4_bestToAsk 57 = .ok (.if_icmp .ge 5, 3) := by decide +kernel
theorem dX4_bestToAsk_60 : decode cX4_bestToAsk 60 = .ok (.iload_n 3, 1) := by decide +kernel
theorem dX4_bestToAsk_61 : decode cX4_bestToAsk 61 = .ok (.istore_n 2, 1) := by decide +kernel
theorem dX4_bestToAsk_62 : decode cX4_bestToAsk 62 = .ok (.iinc 3 1, 3) := by decide +kernel
theorem dX4_bestToAsk_65 : decode cX4_bestToAsk 65 = .ok (.goto (-60), 3) := by decide +kernel
theorem dX4_bestToAsk_68 : decode cX4_bestToAsk 68 = .ok (.iload_n 2, 1) := by decide +kernel
theorem dX4_bestToAsk_69 : decode cX4_bestToAsk 69 = .ok (.ireturn, 1) := by decide +kernel
theorem dX4_greaterPart_0 : decode cX4_greaterPart 0 = .ok (.iconst 0, 1) := by decide +kernel
theorem dX4_greaterPart_1 : decode cX4_greaterPart 1 = .ok (.istore_n 3, 1) := by decide +kernel
theorem dX4_greaterPart_2 : decode cX4_greaterPart 2 = .ok (.iconst 0, 1) := by decide +kernel
theorem dX4_greaterPart_3 : decode cX4_greaterPart 3 = .ok (.istore 4, 2) := by decide +kernel
theorem dX4_greaterPart_5 : decode cX4_greaterPart 5 = .ok (.iload 4, 2) := by decide +kernel
theorem dX4_greaterPart_7 : decode cX4_greaterPart 7 = .ok (.aload_n 0, 1) := by decide +kernel
theorem dX4_greaterPart_8 : decode cX4_greaterPart 8 = .ok (.getfield 19, 3) := by decide +kernel
theorem dX4_greaterPart_11 : decode cX4_greaterPart 11 = .ok (.getfield 80, 3) := by decide +kernel
theorem dX4_greaterPart_14 : decode cX4_greaterPart 14 = .ok (.if_icmp .ge 35, 3) := by decide +kernel
theorem dX4_greaterPart_17 : decode cX4_greaterPart 17 = .ok (.iload_n 1, 1) := by decide +kernel
theorem dX4_greaterPart_18 : decode cX4_greaterPart 18 = .ok (.iload 4, 2) := by decide +kernel
theorem dX4_greaterPart_20 : decode cX4_greaterPart 20 = .ok (.ishr, 1) := by decide +kernel
theorem dX4_greaterPart_21 : decode cX4_greaterPart 21 = .ok (.iconst 1, 1) := by decide +kernel
theorem dX4_greaterPart_22 : decode cX4_greaterPart 22 = .ok (.iand, 1) := by decide +kernel
theorem dX4_greaterPart_23 : decode cX4_greaterPart 23 = .ok (.iconst 1, 1) := by decide +kernel
theorem dX4_greaterPart_24 : decode cX4_greaterPart 24 = .ok (.if_icmp .ne 19, 3) := by decide +kernel
theorem dX4_greaterPart_27 : decode cX4_greaterPart 27 = .ok (.aload_n 0, 1) := by decide +kernel
theorem dX4_greaterPart_28 : decode cX4_greaterPart 28 = .ok (.getfield 26, 3) := by decide +kernel
theorem dX4_greaterPart_31 : decode cX4_greaterPart 31 = .ok (.iload 4, 2) := by decide +kernel
theorem dX4_greaterPart_33 : decode cX4_greaterPart 33 = .ok (.iload_n 2, 1) := by decide +kernel
theorem dX4_greaterPart_34 : decode cX4_greaterPart 34 = .ok (.invokevirtual 140, 3) := by decide +kernel
theorem dX4_greaterPart_37 : decode cX4_greaterPart 37 = .ok (.ifCond .eq 6, 3) := by decide +kernel
theorem dX4_greaterPart_40 : decode cX4_greaterPart 40 = .ok (.iinc 3 1, 3) := by decide +kernel
theorem dX4_greaterPart_43 : decode cX4_greaterPart 43 = .ok (.iinc 4 1, 3) := by decide +kernel
theorem dX4_greaterPart_46 : decode cX4_greaterPart 46 = .ok (.goto (-41), 3) := by decide +kernel
theorem dX4_greaterPart_49 : decode cX4_greaterPart 49 = .ok (.iload_n 3, 1) := by decide +kernel
theorem dX4_greaterPart_50 : decode cX4_greaterPart 50 = .ok (.iload_n 1, 1) := by decide +kernel
theorem dX4_greaterPart_51 : decode cX4_greaterPart 51 = .ok (.invokestatic 189, 3) := by decide +kernel
theorem dX4_greaterPart_54 : decode cX4_greaterPart 54 = .ok (.iload_n 3, 1) := by decide +kernel
theorem dX4_greaterPart_55 : decode cX4_greaterPart 55 = .ok (.isub, 1) := by decide +kernel
theorem dX4_greaterPart_56 : decode cX4_greaterPart 56 = .ok (.invokestatic 268, 3) := by decide +kernel
theorem dX4_greaterPart_59 : decode cX4_greaterPart 59 = .ok (.ireturn, 1) := by decide +kernel
theorem dX4_fitsGuideOf_0 : decode cX4_fitsGuideOf 0 = .ok (.aload_n 0, 1) := by decide +kernel
theorem dX4_fitsGuideOf_1 : decode cX4_fitsGuideOf 1 = .ok (.getfield 26, 3) := by decide +kernel
theorem dX4_fitsGuideOf_4 : decode cX4_fitsGuideOf 4 = .ok (.iload_n 1, 1) := by decide +kernel
theorem dX4_fitsGuideOf_5 : decode cX4_fitsGuideOf 5 = .ok (.invokevirtual 94, 3) := by decide +kernel
theorem dX4_fitsGuideOf_8 : decode cX4_fitsGuideOf 8 = .ok (.aload_n 0, 1) := by decide +kernel
theorem dX4_fitsGuideOf_9 : decode cX4_fitsGuideOf 9 = .ok (.getfield 26, 3) := by decide +kernel
theorem dX4_fitsGuideOf_12 : decode cX4_fitsGuideOf 12 = .ok (.iload_n 2, 1) := by decide +kernel
theorem dX4_fitsGuideOf_13 : decode cX4_fitsGuideOf 13 = .ok (.invokevirtual 97, 3) := by decide +kernel
theorem dX4_fitsGuideOf_16 : decode cX4_fitsGuideOf 16 = .ok (.iconst (-1), 1) := by decide +kernel
theorem dX4_fitsGuideOf_17 : decode cX4_fitsGuideOf 17 = .ok (.ixor, 1) := by decide +kernel
theorem dX4_fitsGuideOf_18 : decode cX4_fitsGuideOf 18 = .ok (.iand, 1) := by decide +kernel
theorem dX4_fitsGuideOf_19 : decode cX4_fitsGuideOf 19 = .ok (.ifCond .ne 7, 3) := by decide +kernel
theorem dX4_fitsGuideOf_22 : decode cX4_fitsGuideOf 22 = .ok (.iconst 1, 1) := by decide +kernel
theorem dX4_fitsGuideOf_23 : decode cX4_fitsGuideOf 23 = .ok (.goto 4, 3) := by decide +kernel
theorem dX4_fitsGuideOf_26 : decode cX4_fitsGuideOf 26 = .ok (.iconst 0, 1) := by decide +kernel
theorem dX4_fitsGuideOf_27 : decode cX4_fitsGuideOf 27 = .ok (.ireturn, 1) := by decide +kernel
theorem dX4_countWays_0 : decode cX4_countWays 0 = .ok (.iconst 1, 1) := by decide +kernel
theorem dX4_countWays_1 : decode cX4_countWays 1 = .ok (.aload_n 0, 1) := by decide +kernel
theorem dX4_countWays_2 : decode cX4_countWays 2 = .ok (.getfield 19, 3) := by decide +kernel
theorem dX4_countWays_5 : decode cX4_countWays 5 = .ok (.getfield 80, 3) := by decide +kernel
theorem dX4_countWays_8 : decode cX4_countWays 8 = .ok (.ishl, 1) := by decide +kernel
theorem dX4_countWays_9 : decode cX4_countWays 9 = .ok (.iconst 1, 1) := by decide +kernel
theorem dX4_countWays_10 : decode cX4_countWays 10 = .ok (.isub, 1) := by decide +kernel
theorem dX4_countWays_11 : decode cX4_countWays 11 = .ok (.istore_n 1, 1) := by decide +kernel
theorem dX4_countWays_12 : decode cX4_countWays 12 = .ok (.iload_n 1, 1) := by decide +kernel
theorem dX4_countWays_13 : decode cX4_countWays 13 = .ok (.istore_n 2, 1) := by decide +kernel
theorem dX4_countWays_14 : decode cX4_countWays 14 = .ok (.iload_n 2, 1) := by decide +kernel
theorem dX4_countWays_15 : decode cX4_countWays 15 = .ok (.ifCond .lt 84, 3) := by decide +kernel
theorem dX4_countWays_18 : decode cX4_countWays 18 = .ok (.iload_n 2, 1) := by decide +kernel
theorem dX4_countWays_19 : decode cX4_countWays 19 = .ok (.iload_n 1, 1) := by decide +kernel
theorem dX4_countWays_20 : decode cX4_countWays 20 = .ok (.if_icmp .ne 7, 3) := by decide +kernel
theorem dX4_countWays_23 : decode cX4_countWays 23 = .ok (.iconst 1, 1) := by decide +kernel
theorem dX4_countWays_24 : decode cX4_countWays 24 = .ok (.goto 4, 3) := by decide +kernel
theorem dX4_countWays_27 : decode cX4_countWays 27 = .ok (.iconst 0, 1) := by decide +kernel
theorem dX4_countWays_28 : decode cX4_countWays 28 = .ok (.istore_n 3, 1) := by decide +kernel
theorem dX4_countWays_29 : decode cX4_countWays 29 = .ok (.iconst 0, 1) := by decide +kernel
theorem dX4_countWays_30 : decode cX4_countWays 30 = .ok (.istore 4, 2) := by decide +kernel
theorem dX4_countWays_32 : decode cX4_countWays 32 = .ok (.iload 4, 2) := by decide +kernel
theorem dX4_countWays_34 : decode cX4_countWays 34 = .ok (.aload_n 0, 1) := by decide +kernel
theorem dX4_countWays_35 : decode cX4_countWays 35 = .ok (.getfield 19, 3) := by decide +kernel
theorem dX4_countWays_38 : decode cX4_countWays 38 = .ok (.getfield 80, 3) := by decide +kernel
theorem dX4_countWays_41 : decode cX4_countWays 41 = .ok (.if_icmp .ge 45, 3) := by decide +kernel
theorem dX4_countWays_44 : decode cX4_countWays 44 = .ok (.iload_n 2, 1) := by decide +kernel
theorem dX4_countWays_45 : decode cX4_countWays 45 = .ok (.iload 4, 2) := by decide +kernel
theorem dX4_countWays_47 : decode cX4_countWays 47 = .ok (.ishr, 1) := by decide +kernel
theorem dX4_countWays_48 : decode cX4_countWays 48 = .ok (.iconst 1, 1) := by decide +kernel
theorem dX4_countWays_49 : decode cX4_countWays 49 = .ok (.iand, 1) := by decide +kernel
theorem dX4_countWays_50 : decode cX4_countWays 50 = .ok (.ifCond .ne 30, 3) := by decide +kernel
theorem dX4_countWays_53 : decode cX4_countWays 53 = .ok (.aload_n 0, 1) := by decide +kernel
theorem dX4_countWays_54 : decode cX4_countWays 54 = .ok (.iload_n 2, 1) := by decide +kernel
theorem dX4_countWays_55 : decode cX4_countWays 55 = .ok (.invokestatic 189, 3) := by decide +kernel
theorem dX4_countWays_58 : decode cX4_countWays 58 = .ok (.iload 4, 2) := by decide +kernel
theorem dX4_countWays_60 : decode cX4_countWays 60 = .ok (.invokevirtual 291, 3) := by decide +kernel
theorem dX4_countWays_63 : decode cX4_countWays 63 = .ok (.ifCond .eq 17, 3) := by decide +kernel
theorem dX4_countWays_66 : decode cX4_countWays 66 = .ok (.iload_n 3, 1) := by decide +kernel
theorem dX4_countWays_67 : decode cX4_countWays 67 = .ok (.aload_n 0, 1) := by decide +kernel
theorem dX4_countWays_68 : decode cX4_countWays 68 = .ok (.getfield 52, 3) := by decide +kernel
theorem dX4_countWays_71 : decode cX4_countWays 71 = .ok (.iload_n 2, 1) := by decide +kernel
theorem dX4_countWays_72 : decode cX4_countWays 72 = .ok (.iconst 1, 1) := by decide +kernel
theorem dX4_countWays_73 : decode cX4_countWays 73 = .ok (.iload 4, 2) := by decide +kernel
theorem dX4_countWays_75 : decode cX4_countWays 75 = .ok (.ishl, 1) := by decide +kernel
theorem dX4_countWays_76 : decode cX4_countWays 76 = .ok (.ior, 1) := by decide +kernel
theorem dX4_countWays_77 : decode cX4_countWays 77 = .ok (.iaload, 1) := by decide +kernel
theorem dX4_countWays_78 : decode cX4_countWays 78 = .ok (.iadd, 1) := by decide +kernel
theorem dX4_countWays_79 : decode cX4_countWays 79 = .ok (.istore_n 3, 1) := by decide +kernel
theorem dX4_countWays_80 : decode cX4_countWays 80 = .ok (.iinc 4 1, 3) := by decide +kernel
theorem dX4_countWays_83 : decode cX4_countWays 83 = .ok (.goto (-51), 3) := by decide +kernel
theorem dX4_countWays_86 : decode cX4_countWays 86 = .ok (.aload_n 0, 1) := by decide +kernel
theorem dX4_countWays_87 : decode cX4_countWays 87 = .ok (.getfield 52, 3) := by decide +kernel
theorem dX4_countWays_90 : decode cX4_countWays 90 = .ok (.iload_n 2, 1) := by decide +kernel
theorem dX4_countWays_91 : decode cX4_countWays 91 = .ok (.iload_n 3, 1) := by decide +kernel
theorem dX4_countWays_92 : decode cX4_countWays 92 = .ok (.iastore, 1) := by decide +kernel
theorem dX4_countWays_93 : decode cX4_countWays 93 = .ok (.iinc 2 (-1), 3) := by decide +kernel
theorem dX4_countWays_96 : decode cX4_countWays 96 = .ok (.goto (-82), 3) := by decide +kernel
theorem dX4_countWays_99 : decode cX4_countWays 99 = .ok (.return_, 1) := by decide +kernel
theorem dX4_guideInFirstWay_0 : decode cX4_guideInFirstWay 0 = .ok (.iconst 0, 1) := by decide +kernel
theorem dX4_guideInFirstWay_1 : decode cX4_guideInFirstWay 1 = .ok (.istore_n 2, 1) := by decide +kernel
theorem dX4_guideInFirstWay_2 : decode cX4_guideInFirstWay 2 = .ok (.bipush (-4), 2) := by decide +kernel
theorem dX4_guideInFirstWay_4 : decode cX4_guideInFirstWay 4 = .ok (.istore_n 3, 1) := by decide +kernel
theorem dX4_guideInFirstWay_5 : decode cX4_guideInFirstWay 5 = .ok (.iconst 0, 1) := by decide +kernel
theorem dX4_guideInFirstWay_6 : decode cX4_guideInFirstWay 6 = .ok (.istore 4, 2) := by decide +kernel
theorem dX4_guideInFirstWay_8 : decode cX4_guideInFirstWay 8 = .ok (.iload 4, 2) := by decide +kernel
theorem dX4_guideInFirstWay_10 : decode cX4_guideInFirstWay 10 = .ok (.iload_n 1, 1) := by decide +kernel
theorem dX4_guideInFirstWay_11 : decode cX4_guideInFirstWay 11 = .ok (.if_icmp .gt 32, 3) := by decide +kernel
theorem dX4_guideInFirstWay_14 : decode cX4_guideInFirstWay 14 = .ok (.aload_n 0, 1) := by decide +kernel
theorem dX4_guideInFirstWay_15 : decode cX4_guideInFirstWay 15 = .ok (.iload 4, 2) := by decide +kernel
theorem dX4_guideInFirstWay_17 : decode cX4_guideInFirstWay 17 = .ok (.iload_n 2, 1) := by decide +kernel
theorem dX4_guideInFirstWay_18 : decode cX4_guideInFirstWay 18 = .ok (.invokevirtual 294, 3) := by decide +kernel
theorem dX4_guideInFirstWay_21 : decode cX4_guideInFirstWay 21 = .ok (.istore_n 3, 1) := by decide +kernel
theorem dX4_guideInFirstWay_22 : decode cX4_guideInFirstWay 22 = .ok (.iload_n 3, 1) := by decide +kernel
theorem dX4_guideInFirstWay_23 : decode cX4_guideInFirstWay 23 = .ok (.bipush (-4), 2) := by decide +kernel
theorem dX4_guideInFirstWay_25 : decode cX4_guideInFirstWay 25 = .ok (.if_icmp .ne 6, 3) := by decide +kernel
theorem dX4_guideInFirstWay_28 : decode cX4_guideInFirstWay 28 = .ok (.bipush (-4), 2) := by decide +kernel
theorem dX4_guideInFirstWay_30 : decode cX4_guideInFirstWay 30 = .ok (.ireturn, 1) := by decide +kernel
theorem dX4_guideInFirstWay_31 : decode cX4_guideInFirstWay 31 = .ok (.iload_n 2, 1) := by decide +kernel
theorem dX4_guideInFirstWay_32 : decode cX4_guideInFirstWay 32 = .ok (.iconst 1, 1) := by decide +kernel
theorem dX4_guideInFirstWay_33 : decode cX4_guideInFirstWay 33 = .ok (.iload_n 3, 1) := by decide +kernel
theorem dX4_guideInFirstWay_34 : decode cX4_guideInFirstWay 34 = .ok (.ishl, 1) := by decide +kernel
theorem dX4_guideInFirstWay_35 : decode cX4_guideInFirstWay 35 = .ok (.ior, 1) := by decide +kernel
theorem dX4_guideInFirstWay_36 : decode cX4_guideInFirstWay 36 = .ok (.istore_n 2, 1) := by decide +kernel
theorem dX4_guideInFirstWay_37 : decode cX4_guideInFirstWay 37 = .ok (.iinc 4 1, 3) := by decide +kernel
theorem dX4_guideInFirstWay_40 : decode cX4_guideInFirstWay 40 = .ok (.goto (-32), 3) := by decide +kernel
theorem dX4_guideInFirstWay_43 : decode cX4_guideInFirstWay 43 = .ok (.iload_n 3, 1) := by decide +kernel
theorem dX4_guideInFirstWay_44 : decode cX4_guideInFirstWay 44 = .ok (.ireturn, 1) := by decide +kernel
theorem dX4_lowestGuideFor_0 : decode cX4_lowestGuideFor 0 = .ok (.iconst 0, 1) := by decide +kernel
theorem dX4_lowestGuideFor_1 : decode cX4_lowestGuideFor 1 = .ok (.istore_n 3, 1) := by decide +kernel
theorem dX4_lowestGuideFor_2 : decode cX4_lowestGuideFor 2 = .ok (.iload_n 3, 1) := by decide +kernel
theorem dX4_lowestGuideFor_3 : decode cX4_lowestGuideFor 3 = .ok (.aload_n 0, 1) := by decide +kernel
theorem dX4_lowestGuideFor_4 : decode cX4_lowestGuideFor 4 = .ok (.getfield 19, 3) := by decide +kernel
theorem dX4_lowestGuideFor_7 : decode cX4_lowestGuideFor 7 = .ok (.getfield 80, 3) := by decide +kernel
theorem dX4_lowestGuideFor_10 : decode cX4_lowestGuideFor 10 = .ok (.if_icmp .ge 53, 3) := by decide +kernel
theorem dX4_lowestGuideFor_13 : decode cX4_lowestGuideFor 13 = .ok (.iload_n 2, 1) := by decide +kernel
theorem dX4_lowestGuideFor_14 : decode cX4_lowestGuideFor 14 = .ok (.iload_n 3, 1) := by decide +kernel
theorem dX4_lowestGuideFor_15 : decode cX4_lowestGuideFor 15 = .ok (.ishr, 1) := by decide +kernel
theorem dX4_lowestGuideFor_16 : decode cX4_lowestGuideFor 16 = .ok (.iconst 1, 1) := by decide +kernel
theorem dX4_lowestGuideFor_17 : decode cX4_lowestGuideFor 17 = .ok (.iand, 1) := by decide +kernel
theorem dX4_lowestGuideFor_18 : decode cX4_lowestGuideFor 18 = .ok (.ifCond .ne 7, 3) := by decide +kernel
theorem dX4_lowestGuideFor_21 : decode cX4_lowestGuideFor 21 = .ok (.iconst 1, 1) := by decide +kernel
theorem dX4_lowestGuideFor_22 : decode cX4_lowestGuideFor 22 = .ok (.goto 4, 3) := by decide +kernel
theorem dX4_lowestGuideFor_25 : decode cX4_lowestGuideFor 25 = .ok (.iconst 0, 1) := by decide +kernel
theorem dX4_lowestGuideFor_26 : decode cX4_lowestGuideFor 26 = .ok (.istore 4, 2) := by decide +kernel
theorem dX4_lowestGuideFor_28 : decode cX4_lowestGuideFor 28 = .ok (.iload 4, 2) := by decide +kernel
theorem dX4_lowestGuideFor_30 : decode cX4_lowestGuideFor 30 = .ok (.ifCond .eq 27, 3) := by decide +kernel
theorem dX4_lowestGuideFor_33 : decode cX4_lowestGuideFor 33 = .ok (.aload_n 0, 1) := by decide +kernel
theorem dX4_lowestGuideFor_34 : decode cX4_lowestGuideFor 34 = .ok (.iload_n 1, 1) := by decide +kernel
theorem dX4_lowestGuideFor_35 : decode cX4_lowestGuideFor 35 = .ok (.iload_n 3, 1) := by decide +kernel
theorem dX4_lowestGuideFor_36 : decode cX4_lowestGuideFor 36 = .ok (.invokevirtual 291, 3) := by decide +kernel
theorem dX4_lowestGuideFor_39 : decode cX4_lowestGuideFor 39 = .ok (.ifCond .eq 18, 3) := by decide +kernel
theorem dX4_lowestGuideFor_42 : decode cX4_lowestGuideFor 42 = .ok (.aload_n 0, 1) := by decide +kernel
theorem dX4_lowestGuideFor_43 : decode cX4_lowestGuideFor 43 = .ok (.getfield 52, 3) := by decide +kernel
theorem dX4_lowestGuideFor_46 : decode cX4_lowestGuideFor 46 = .ok (.iload_n 2, 1) := by decide +kernel
theorem dX4_lowestGuideFor_47 : decode cX4_lowestGuideFor 47 = .ok (.iconst 1, 1) := by decide +kernel
theorem dX4_lowestGuideFor_48 : decode cX4_lowestGuideFor 48 = .ok (.iload_n 3, 1) := by decide +kernel
theorem dX4_lowestGuideFor_49 : decode cX4_lowestGuideFor 49 = .ok (.ishl, 1) := by decide +kernel
theorem dX4_lowestGuideFor_50 : decode cX4_lowestGuideFor 50 = .ok (.ior, 1) := by decide +kernel
theorem dX4_lowestGuideFor_51 : decode cX4_lowestGuideFor 51 = .ok (.iaload, 1) := by decide +kernel
theorem dX4_lowestGuideFor_52 : decode cX4_lowestGuideFor 52 = .ok (.ifCond .le 5, 3) := by decide +kernel
theorem dX4_lowestGuideFor_55 : decode cX4_lowestGuideFor 55 = .ok (.iload_n 3, 1) := by decide +kernel
theorem dX4_lowestGuideFor_56 : decode cX4_lowestGuideFor 56 = .ok (.ireturn, 1) := by decide +kernel
theorem dX4_lowestGuideFor_57 : decode cX4_lowestGuideFor 57 = .ok (.iinc 3 1, 3) := by decide +kernel
theorem dX4_lowestGuideFor_60 : decode cX4_lowestGuideFor 60 = .ok (.goto (-58), 3) := by decide +kernel
theorem dX4_lowestGuideFor_63 : decode cX4_lowestGuideFor 63 = .ok (.bipush (-4), 2) := by decide +kernel
theorem dX4_lowestGuideFor_65 : decode cX4_lowestGuideFor 65 = .ok (.ireturn, 1) := by decide +kernel
theorem dX4_waysToStay_0 : decode cX4_waysToStay 0 = .ok (.iload_n 1, 1) := by decide +kernel
theorem dX4_waysToStay_1 : decode cX4_waysToStay 1 = .ok (.ifCond .lt 23, 3) := by decide +kernel
theorem dX4_waysToStay_4 : decode cX4_waysToStay 4 = .ok (.iload_n 1, 1) := by decide +kernel
theorem dX4_waysToStay_5 : decode cX4_waysToStay 5 = .ok (.bipush 8, 2) := by decide +kernel
theorem dX4_waysToStay_7 : decode cX4_waysToStay 7 = .ok (.if_icmp .gt 17, 3) := by decide +kernel
theorem dX4_waysToStay_10 : decode cX4_waysToStay 10 = .ok (.aload_n 0, 1) := by decide +kernel
theorem dX4_waysToStay_11 : decode cX4_waysToStay 11 = .ok (.getfield 55, 3) := by decide +kernel
theorem dX4_waysToStay_14 : decode cX4_waysToStay 14 = .ok (.iload_n 1, 1) := by decide +kernel
theorem dX4_waysToStay_15 : decode cX4_waysToStay 15 = .ok (.iconst 5, 1) := by decide +kernel
theorem dX4_waysToStay_16 : decode cX4_waysToStay 16 = .ok (.imul, 1) := by decide +kernel
theorem dX4_waysToStay_17 : decode cX4_waysToStay 17 = .ok (.iload 4, 2) := by decide +kernel
theorem dX4_waysToStay_19 : decode cX4_waysToStay 19 = .ok (.iadd, 1) := by decide +kernel
theorem dX4_waysToStay_20 : decode cX4_waysToStay 20 = .ok (.iaload, 1) := by decide +kernel
theorem dX4_waysToStay_21 : decode cX4_waysToStay 21 = .ok (.ifCond .ne 5, 3) := by decide +kernel
theorem dX4_waysToStay_24 : decode cX4_waysToStay 24 = .ok (.iconst 0, 1) := by decide +kernel
theorem dX4_waysToStay_25 : decode cX4_waysToStay 25 = .ok (.ireturn, 1) := by decide +kernel
theorem dX4_waysToStay_26 : decode cX4_waysToStay 26 = .ok (.iload_n 1, 1) := by decide +kernel
theorem dX4_waysToStay_27 : decode cX4_waysToStay 27 = .ok (.iload_n 2, 1) := by decide +kernel
theorem dX4_waysToStay_28 : decode cX4_waysToStay 28 = .ok (.if_icmp .lt 5, 3) := by decide +kernel
theorem dX4_waysToStay_31 : decode cX4_waysToStay 31 = .ok (.iconst 1, 1) := by decide +kernel
theorem dX4_waysToStay_32 : decode cX4_waysToStay 32 = .ok (.ireturn, 1) := by decide +kernel
theorem dX4_waysToStay_33 : decode cX4_waysToStay 33 = .ok (.iconst 0, 1) := by decide +kernel
theorem dX4_waysToStay_34 : decode cX4_waysToStay 34 = .ok (.istore 6, 2) := by decide +kernel
theorem dX4_waysToStay_36 : decode cX4_waysToStay 36 = .ok (.iload 5, 2) := by decide +kernel
theorem dX4_waysToStay_38 : decode cX4_waysToStay 38 = .ok (.ifCond .le 35, 3) := by decide +kernel
theorem dX4_waysToStay_41 : decode cX4_waysToStay 41 = .ok (.aload_n 0, 1) := by decide +kernel
theorem dX4_waysToStay_42 : decode cX4_waysToStay 42 = .ok (.iload_n 1, 1) := by decide +kernel
theorem dX4_waysToStay_43 : decode cX4_waysToStay 43 = .ok (.iload_n 3, 1) := by decide +kernel
theorem dX4_waysToStay_44 : decode cX4_waysToStay 44 = .ok (.bipush 20, 2) := by decide +kernel
theorem dX4_waysToStay_46 : decode cX4_waysToStay 46 = .ok (.invokevirtual 297, 3) := by decide +kernel
theorem dX4_waysToStay_49 : decode cX4_waysToStay 49 = .ok (.ifCond .eq 24, 3) := by decide +kernel
theorem dX4_waysToStay_52 : decode cX4_waysToStay 52 = .ok (.iload 6, 2) := by decide +kernel
theorem dX4_waysToStay_54 : decode cX4_waysToStay 54 = .ok (.iload 5, 2) := by decide +kernel
theorem dX4_waysToStay_56 : decode cX4_waysToStay 56 = .ok (.aload_n 0, 1) := by decide +kernel
theorem dX4_waysToStay_57 : decode cX4_waysToStay 57 = .ok (.iload_n 1, 1) := by decide +kernel
theorem dX4_waysToStay_58 : decode cX4_waysToStay 58 = .ok (.iconst 1, 1) := by decide +kernel
theorem dX4_waysToStay_59 : decode cX4_waysToStay 59 = .ok (.iadd, 1) := by decide +kernel
theorem dX4_waysToStay_60 : decode cX4_waysToStay 60 = .ok (.iload_n 2, 1) := by decide +kernel
theorem dX4_waysToStay_61 : decode cX4_waysToStay 61 = .ok (.iload_n 3, 1) := by decide +kernel
theorem dX4_waysToStay_62 : decode cX4_waysToStay 62 = .ok (.iload 4, 2) := by decide +kernel
theorem dX4_waysToStay_64 : decode cX4_waysToStay 64 = .ok (.iload 5, 2) := by decide +kernel
theorem dX4_waysToStay_66 : decode cX4_waysToStay 66 = .ok (.invokevirtual 224, 3) := by decide +kernel
theorem dX4_waysToStay_69 : decode cX4_waysToStay 69 = .ok (.imul, 1) := by decide +kernel
theorem dX4_waysToStay_70 : decode cX4_waysToStay 70 = .ok (.iadd, 1) := by decide +kernel
theorem dX4_waysToStay_71 : decode cX4_waysToStay 71 = .ok (.istore 6, 2) := by decide +kernel
theorem dX4_waysToStay_73 : decode cX4_waysToStay 73 = .ok (.iload 5, 2) := by decide +kernel
theorem dX4_waysToStay_75 : decode cX4_waysToStay 75 = .ok (.bipush 10, 2) := by decide +kernel
theorem dX4_waysToStay_77 : decode cX4_waysToStay 77 = .ok (.if_icmp .ge 52, 3) := by decide +kernel
theorem dX4_waysToStay_80 : decode cX4_waysToStay 80 = .ok (.aload_n 0, 1) := by decide +kernel
theorem dX4_waysToStay_81 : decode cX4_waysToStay 81 = .ok (.iload_n 1, 1) := by decide +kernel
theorem dX4_waysToStay_82 : decode cX4_waysToStay 82 = .ok (.iload_n 3, 1) := by decide +kernel
theorem dX4_waysToStay_83 : decode cX4_waysToStay 83 = .ok (.aload_n 0, 1) := by decide +kernel
theorem dX4_waysToStay_84 : decode cX4_waysToStay 84 = .ok (.getfield 19, 3) := by decide +kernel
theorem dX4_waysToStay_87 : decode cX4_waysToStay 87 = .ok (.aload_n 0, 1) := by decide +kernel
theorem dX4_waysToStay_88 : decode cX4_waysToStay 88 = .ok (.getfield 26, 3) := by decide +kernel
theorem dX4_waysToStay_91 : decode cX4_waysToStay 91 = .ok (.invokevirtual 100, 3) := by decide +kernel
theorem dX4_waysToStay_94 : decode cX4_waysToStay 94 = .ok (.iload_n 1, 1) := by decide +kernel
theorem dX4_waysToStay_95 : decode cX4_waysToStay 95 = .ok (.iadd, 1) := by decide +kernel
theorem dX4_waysToStay_96 : decode cX4_waysToStay 96 = .ok (.invokevirtual 103, 3) := by decide +kernel
theorem dX4_waysToStay_99 : decode cX4_waysToStay 99 = .ok (.invokevirtual 297, 3) := by decide +kernel
theorem dX4_waysToStay_102 : decode cX4_waysToStay 102 = .ok (.ifCond .eq 27, 3) := by decide +kernel
theorem dX4_waysToStay_105 : decode cX4_waysToStay 105 = .ok (.iload 6, 2) := by decide +kernel
theorem dX4_waysToStay_107 : decode cX4_waysToStay 107 = .ok (.bipush 10, 2) := by decide +kernel
theorem dX4_waysToStay_109 : decode cX4_waysToStay 109 = .ok (.iload 5, 2) := by decide +kernel
theorem dX4_waysToStay_111 : decode cX4_waysToStay 111 = .ok (.isub, 1) := by decide +kernel
theorem dX4_waysToStay_112 : decode cX4_waysToStay 112 = .ok (.aload_n 0, 1) := by decide +kernel
theorem dX4_waysToStay_113 : decode cX4_waysToStay 113 = .ok (.iload_n 1, 1) := by decide +kernel
theorem dX4_waysToStay_114 : decode cX4_waysToStay 114 = .ok (.iconst 1, 1) := by decide +kernel
theorem dX4_waysToStay_115 : decode cX4_waysToStay 115 = .ok (.iadd, 1) := by decide +kernel
theorem dX4_waysToStay_116 : decode cX4_waysToStay 116 = .ok (.iload_n 2, 1) := by decide +kernel
theorem dX4_waysToStay_117 : decode cX4_waysToStay 117 = .ok (.iload_n 3, 1) := by decide +kernel
theorem dX4_waysToStay_118 : decode cX4_waysToStay 118 = .ok (.iload 4, 2) := by decide +kernel
theorem dX4_waysToStay_120 : decode cX4_waysToStay 120 = .ok (.iload 5, 2) := by decide +kernel
theorem dX4_waysToStay_122 : decode cX4_waysToStay 122 = .ok (.invokevirtual 224, 3) := by decide +kernel
theorem dX4_waysToStay_125 : decode cX4_waysToStay 125 = .ok (.imul, 1) := by decide +kernel
theorem dX4_waysToStay_126 : decode cX4_waysToStay 126 = .ok (.iadd, 1) := by decide +kernel
theorem dX4_waysToStay_127 : decode cX4_waysToStay 127 = .ok (.istore 6, 2) := by decide +kernel
theorem dX4_waysToStay_129 : decode cX4_waysToStay 129 = .ok (.iload 6, 2) := by decide +kernel
theorem dX4_waysToStay_131 : decode cX4_waysToStay 131 = .ok (.ireturn, 1) := by decide +kernel
theorem dX4_blowGust_0 : decode cX4_blowGust 0 = .ok (.iload_n 1, 1) := by decide +kernel
theorem dX4_blowGust_1 : decode cX4_blowGust 1 = .ok (.ifCond .lt 9, 3) := by decide +kernel
theorem dX4_blowGust_4 : decode cX4_blowGust 4 = .ok (.iload_n 1, 1) := by decide +kernel
theorem dX4_blowGust_5 : decode cX4_blowGust 5 = .ok (.bipush 8, 2) := by decide +kernel
theorem dX4_blowGust_7 : decode cX4_blowGust 7 = .ok (.if_icmp .lt 5, 3) := by decide +kernel
theorem dX4_blowGust_10 : decode cX4_blowGust 10 = .ok (.iconst 0, 1) := by decide +kernel
theorem dX4_blowGust_11 : decode cX4_blowGust 11 = .ok (.ireturn, 1) := by decide +kernel
theorem dX4_blowGust_12 : decode cX4_blowGust 12 = .ok (.iload_n 1, 1) := by decide +kernel
theorem dX4_blowGust_13 : decode cX4_blowGust 13 = .ok (.iconst 1, 1) := by decide +kernel
theorem dX4_blowGust_14 : decode cX4_blowGust 14 = .ok (.iadd, 1) := by decide +kernel
theorem dX4_blowGust_15 : decode cX4_blowGust 15 = .ok (.iconst 5, 1) := by decide +kernel
theorem dX4_blowGust_16 : decode cX4_blowGust 16 = .ok (.imul, 1) := by decide +kernel
theorem dX4_blowGust_17 : decode cX4_blowGust 17 = .ok (.istore 4, 2) := by decide +kernel
theorem dX4_blowGust_19 : decode cX4_blowGust 19 = .ok (.aload_n 0, 1) := by decide +kernel
theorem dX4_blowGust_20 : decode cX4_blowGust 20 = .ok (.getfield 55, 3) := by decide +kernel
theorem dX4_blowGust_23 : decode cX4_blowGust 23 = .ok (.iload_n 1, 1) := by decide +kernel
theorem dX4_blowGust_24 : decode cX4_blowGust 24 = .ok (.iconst 5, 1) := by decide +kernel
theorem dX4_blowGust_25 : decode cX4_blowGust 25 = .ok (.imul, 1) := by decide +kernel
theorem dX4_blowGust_26 : decode cX4_blowGust 26 = .ok (.aload_n 0, 1) := by decide +kernel
theorem dX4_blowGust_27 : decode cX4_blowGust 27 = .ok (.getfield 55, 3) := by decide +kernel
theorem dX4_blowGust_30 : decode cX4_blowGust 30 = .ok (.iload 4, 2) := by decide +kernel
theorem dX4_blowGust_32 : decode cX4_blowGust 32 = .ok (.iconst 5, 1) := by decide +kernel
theorem dX4_blowGust_33 : decode cX4_blowGust 33 = .ok (.invokestatic 301, 3) := by decide +kernel
theorem dX4_blowGust_36 : decode cX4_blowGust 36 = .ok (.aload_n 0, 1) := by decide +kernel
theorem dX4_blowGust_37 : decode cX4_blowGust 37 = .ok (.getfield 55, 3) := by decide +kernel
theorem dX4_blowGust_40 : decode cX4_blowGust 40 = .ok (.iload 4, 2) := by decide +kernel
theorem dX4_blowGust_42 : decode cX4_blowGust 42 = .ok (.aload_n 0, 1) := by decide +kernel
theorem dX4_blowGust_43 : decode cX4_blowGust 43 = .ok (.getfield 19, 3) := by decide +kernel
theorem dX4_blowGust_46 : decode cX4_blowGust 46 = .ok (.iload_n 2, 1) := by decide +kernel
theorem dX4_blowGust_47 : decode cX4_blowGust 47 = .ok (.iload_n 3, 1) := by decide +kernel
theorem dX4_blowGust_48 : decode cX4_blowGust 48 = .ok (.invokevirtual 106, 3) := by decide +kernel
theorem dX4_blowGust_51 : decode cX4_blowGust 51 = .ok (.aload_n 0, 1) := by decide +kernel
theorem dX4_blowGust_52 : decode cX4_blowGust 52 = .ok (.getfield 19, 3) := by decide +kernel
theorem dX4_blowGust_55 : decode cX4_blowGust 55 = .ok (.iload_n 2, 1) := by decide +kernel
theorem dX4_blowGust_56 : decode cX4_blowGust 56 = .ok (.invokevirtual 262, 3) := by decide +kernel
theorem dX4_blowGust_59 : decode cX4_blowGust 59 = .ok (.invokestatic 307, 3) := by decide +kernel
theorem dX4_blowGust_62 : decode cX4_blowGust 62 = .ok (.iconst 1, 1) := by decide +kernel
theorem dX4_blowGust_63 : decode cX4_blowGust 63 = .ok (.ireturn, 1) := by decide +kernel
theorem dX4_inLowestTerms_0 : decode cX4_inLowestTerms 0 = .ok (.iload_n 0, 1) := by decide +kernel
theorem dX4_inLowestTerms_1 : decode cX4_inLowestTerms 1 = .ok (.istore_n 3, 1) := by decide +kernel
theorem dX4_inLowestTerms_2 : decode cX4_inLowestTerms 2 = .ok (.iload_n 1, 1) := by decide +kernel
theorem dX4_inLowestTerms_3 : decode cX4_inLowestTerms 3 = .ok (.istore 4, 2) := by decide +kernel
theorem dX4_inLowestTerms_5 : decode cX4_inLowestTerms 5 = .ok (.iconst 0, 1) := by decide +kernel
theorem dX4_inLowestTerms_6 : decode cX4_inLowestTerms 6 = .ok (.istore 5, 2) := by decide +kernel
theorem dX4_inLowestTerms_8 : decode cX4_inLowestTerms 8 = .ok (.iload 5, 2) := by decide +kernel
theorem dX4_inLowestTerms_10 : decode cX4_inLowestTerms 10 = .ok (.iload_n 2, 1) := by decide +kernel
theorem dX4_inLowestTerms_11 : decode cX4_inLowestTerms 11 = .ok (.if_icmp .ge 55, 3) := by decide +kernel
theorem dX4_inLowestTerms_14 : decode cX4_inLowestTerms 14 = .ok (.iload_n 3, 1) := by decide +kernel
theorem dX4_inLowestTerms_15 : decode cX4_inLowestTerms 15 = .ok (.iconst 2, 1) := by decide +kernel
theorem dX4_inLowestTerms_16 : decode cX4_inLowestTerms 16 = .ok (.irem, 1) := by decide +kernel
theorem dX4_inLowestTerms_17 : decode cX4_inLowestTerms 17 = .ok (.ifCond .ne 20, 3) := by decide +kernel
theorem dX4_inLowestTerms_20 : decode cX4_inLowestTerms 20 = .ok (.iload 4, 2) := by decide +kernel
theorem dX4_inLowestTerms_22 : decode cX4_inLowestTerms 22 = .ok (.iconst 2, 1) := by decide +kernel
theorem dX4_inLowestTerms_23 : decode cX4_inLowestTerms 23 = .ok (.irem, 1) := by decide +kernel
theorem dX4_inLowestTerms_24 : decode cX4_inLowestTerms 24 = .ok (.ifCond .ne 13, 3) := by decide +kernel
theorem dX4_inLowestTerms_27 : decode cX4_inLowestTerms 27 = .ok (.iload_n 3, 1) := by decide +kernel
theorem dX4_inLowestTerms_28 : decode cX4_inLowestTerms 28 = .ok (.iconst 2, 1) := by decide +kernel
theorem dX4_inLowestTerms_29 : decode cX4_inLowestTerms 29 = .ok (.idiv, 1) := by decide +kernel
theorem dX4_inLowestTerms_30 : decode cX4_inLowestTerms 30 = .ok (.istore_n 3, 1) := by decide +kernel
theorem dX4_inLowestTerms_31 : decode cX4_inLowestTerms 31 = .ok (.iload 4, 2) := by decide +kernel
theorem dX4_inLowestTerms_33 : decode cX4_inLowestTerms 33 = .ok (.iconst 2, 1) := by decide +kernel
theorem dX4_inLowestTerms_34 : decode cX4_inLowestTerms 34 = .ok (.idiv, 1) := by decide +kernel
theorem dX4_inLowestTerms_35 : decode cX4_inLowestTerms 35 = .ok (.istore 4, 2) := by decide +kernel
theorem dX4_inLowestTerms_37 : decode cX4_inLowestTerms 37 = .ok (.iload_n 3, 1) := by decide +kernel
theorem dX4_inLowestTerms_38 : decode cX4_inLowestTerms 38 = .ok (.iconst 5, 1) := by decide +kernel
theorem dX4_inLowestTerms_39 : decode cX4_inLowestTerms 39 = .ok (.irem, 1) := by decide +kernel
theorem dX4_inLowestTerms_40 : decode cX4_inLowestTerms 40 = .ok (.ifCond .ne 20, 3) := by decide +kernel
theorem dX4_inLowestTerms_43 : decode cX4_inLowestTerms 43 = .ok (.iload 4, 2) := by decide +kernel
theorem dX4_inLowestTerms_45 : decode cX4_inLowestTerms 45 = .ok (.iconst 5, 1) := by decide +kernel
theorem dX4_inLowestTerms_46 : decode cX4_inLowestTerms 46 = .ok (.irem, 1) := by decide +kernel
theorem dX4_inLowestTerms_47 : decode cX4_inLowestTerms 47 = .ok (.ifCond .ne 13, 3) := by decide +kernel
theorem dX4_inLowestTerms_50 : decode cX4_inLowestTerms 50 = .ok (.iload_n 3, 1) := by decide +kernel
theorem dX4_inLowestTerms_51 : decode cX4_inLowestTerms 51 = .ok (.iconst 5, 1) := by decide +kernel
theorem dX4_inLowestTerms_52 : decode cX4_inLowestTerms 52 = .ok (.idiv, 1) := by decide +kernel
theorem dX4_inLowestTerms_53 : decode cX4_inLowestTerms 53 = .ok (.istore_n 3, 1) := by decide +kernel
theorem dX4_inLowestTerms_54 : decode cX4_inLowestTerms 54 = .ok (.iload 4, 2) := by decide +kernel
theorem dX4_inLowestTerms_56 : decode cX4_inLowestTerms 56 = .ok (.iconst 5, 1) := by decide +kernel
theorem dX4_inLowestTerms_57 : decode cX4_inLowestTerms 57 = .ok (.idiv, 1) := by decide +kernel
theorem dX4_inLowestTerms_58 : decode cX4_inLowestTerms 58 = .ok (.istore 4, 2) := by decide +kernel
theorem dX4_inLowestTerms_60 : decode cX4_inLowestTerms 60 = .ok (.iinc 5 1, 3) := by decide +kernel
theorem dX4_inLowestTerms_63 : decode cX4_inLowestTerms 63 = .ok (.goto (-55), 3) := by decide +kernel
theorem dX4_inLowestTerms_66 : decode cX4_inLowestTerms 66 = .ok (.iload_n 3, 1) := by decide +kernel
theorem dX4_inLowestTerms_67 : decode cX4_inLowestTerms 67 = .ok (.ireturn, 1) := by decide +kernel
theorem dX4_drawOf_0 : decode cX4_drawOf 0 = .ok (.ldc2_w 311, 3) := by decide +kernel
theorem dX4_drawOf_3 : decode cX4_drawOf 3 = .ok (.iload_n 0, 1) := by decide +kernel
theorem dX4_drawOf_4 : decode cX4_drawOf 4 = .ok (.i2l, 1) := by decide +kernel
theorem dX4_drawOf_5 : decode cX4_drawOf 5 = .ok (.lmul, 1) := by decide +kernel
theorem dX4_drawOf_6 : decode cX4_drawOf 6 = .ok (.ldc2_w 313, 3) := by decide +kernel
theorem dX4_drawOf_9 : decode cX4_drawOf 9 = .ok (.iload_n 1, 1) := by decide +kernel
theorem dX4_drawOf_10 : decode cX4_drawOf 10 = .ok (.i2l, 1) := by decide +kernel
theorem dX4_drawOf_11 : decode cX4_drawOf 11 = .ok (.lmul, 1) := by decide +kernel
theorem dX4_drawOf_12 : decode cX4_drawOf 12 = .ok (.ladd, 1) := by decide +kernel
theorem dX4_drawOf_13 : decode cX4_drawOf 13 = .ok (.lconst 1, 1) := by decide +kernel
theorem dX4_drawOf_14 : decode cX4_drawOf 14 = .ok (.ladd, 1) := by decide +kernel
theorem dX4_drawOf_15 : decode cX4_drawOf 15 = .ok (.lstore_n 2, 1) := by decide +kernel
theorem dX4_drawOf_16 : decode cX4_drawOf 16 = .ok (.lload_n 2, 1) := by decide +kernel
theorem dX4_drawOf_17 : decode cX4_drawOf 17 = .ok (.lload_n 2, 1) := by decide +kernel
theorem dX4_drawOf_18 : decode cX4_drawOf 18 = .ok (.lmul, 1) := by decide +kernel
theorem dX4_drawOf_19 : decode cX4_drawOf 19 = .ok (.ldc2_w 315, 3) := by decide +kernel
theorem dX4_drawOf_22 : decode cX4_drawOf 22 = .ok (.lrem, 1) := by decide +kernel
theorem dX4_drawOf_23 : decode cX4_drawOf 23 = .ok (.l2i, 1) := by decide +kernel
theorem dX4_drawOf_24 : decode cX4_drawOf 24 = .ok (.ireturn, 1) := by decide +kernel
theorem dX4_trimByDraw_0 : decode cX4_trimByDraw 0 = .ok (.aload_n 0, 1) := by decide +kernel
theorem dX4_trimByDraw_1 : decode cX4_trimByDraw 1 = .ok (.getfield 19, 3) := by decide +kernel
theorem dX4_trimByDraw_4 : decode cX4_trimByDraw 4 = .ok (.getfield 80, 3) := by decide +kernel
theorem dX4_trimByDraw_7 : decode cX4_trimByDraw 7 = .ok (.iconst 1, 1) := by decide +kernel
theorem dX4_trimByDraw_8 : decode cX4_trimByDraw 8 = .ok (.if_icmp .ge 4, 3) := by decide +kernel
theorem dX4_trimByDraw_11 : decode cX4_trimByDraw 11 = .ok (.return_, 1) := by decide +kernel
theorem dX4_trimByDraw_12 : decode cX4_trimByDraw 12 = .ok (.iload_n 2, 1) := by decide +kernel
theorem dX4_trimByDraw_13 : decode cX4_trimByDraw 13 = .ok (.bipush 8, 2) := by decide +kernel
theorem dX4_trimByDraw_15 : decode cX4_trimByDraw 15 = .ok (.irem, 1) := by decide +kernel
theorem dX4_trimByDraw_16 : decode cX4_trimByDraw 16 = .ok (.istore_n 3, 1) := by decide +kernel
theorem dX4_trimByDraw_17 : decode cX4_trimByDraw 17 = .ok (.iload_n 2, 1) := by decide +kernel
theorem dX4_trimByDraw_18 : decode cX4_trimByDraw 18 = .ok (.bipush 8, 2) := by decide +kernel
theorem dX4_trimByDraw_20 : decode cX4_trimByDraw 20 = .ok (.idiv, 1) := by decide +kernel
theorem dX4_trimByDraw_21 : decode cX4_trimByDraw 21 = .ok (.aload_n 0, 1) := by decide +kernel
theorem dX4_trimByDraw_22 : decode cX4_trimByDraw 22 = .ok (.getfield 19, 3) := by decide +kernel
theorem dX4_trimByDraw_25 : decode cX4_trimByDraw 25 = .ok (.getfield 80, 3) := by decide +kernel
theorem dX4_trimByDraw_28 : decode cX4_trimByDraw 28 = .ok (.irem, 1) := by decide +kernel
theorem dX4_trimByDraw_29 : decode cX4_trimByDraw 29 = .ok (.istore 4, 2) := by decide +kernel
theorem dX4_trimByDraw_31 : decode cX4_trimByDraw 31 = .ok (.iload_n 2, 1) := by decide +kernel
theorem dX4_trimByDraw_32 : decode cX4_trimByDraw 32 = .ok (.bipush 64, 2) := by decide +kernel
theorem dX4_trimByDraw_34 : decode cX4_trimByDraw 34 = .ok (.idiv, 1) := by decide +kernel
theorem dX4_trimByDraw_35 : decode cX4_trimByDraw 35 = .ok (.iconst 5, 1) := by decide +kernel
theorem dX4_trimByDraw_36 : decode cX4_trimByDraw 36 = .ok (.irem, 1) := by decide +kernel
theorem dX4_trimByDraw_37 : decode cX4_trimByDraw 37 = .ok (.istore 5, 2) := by decide +kernel
theorem dX4_trimByDraw_39 : decode cX4_trimByDraw 39 = .ok (.iload_n 2, 1) := by decide +kernel
theorem dX4_trimByDraw_40 : decode cX4_trimByDraw 40 = .ok (.sipush 512, 3) := by decide +kernel
theorem dX4_trimByDraw_43 : decode cX4_trimByDraw 43 = .ok (.idiv, 1) := by decide +kernel
theorem dX4_trimByDraw_44 : decode cX4_trimByDraw 44 = .ok (.bipush 9, 2) := by decide +kernel
theorem dX4_trimByDraw_46 : decode cX4_trimByDraw 46 = .ok (.irem, 1) := by decide +kernel
theorem dX4_trimByDraw_47 : decode cX4_trimByDraw 47 = .ok (.iconst 1, 1) := by decide +kernel
theorem dX4_trimByDraw_48 : decode cX4_trimByDraw 48 = .ok (.iadd, 1) := by decide +kernel
theorem dX4_trimByDraw_49 : decode cX4_trimByDraw 49 = .ok (.istore 6, 2) := by decide +kernel
theorem dX4_trimByDraw_51 : decode cX4_trimByDraw 51 = .ok (.iload_n 3, 1) := by decide +kernel
theorem dX4_trimByDraw_52 : decode cX4_trimByDraw 52 = .ok (.iconst 2, 1) := by decide +kernel
theorem dX4_trimByDraw_53 : decode cX4_trimByDraw 53 = .ok (.if_icmp .gt 27, 3) := by decide +kernel
theorem dX4_trimByDraw_56 : decode cX4_trimByDraw 56 = .ok (.aload_n 1, 1) := by decide +kernel
theorem dX4_trimByDraw_57 : decode cX4_trimByDraw 57 = .ok (.iload 4, 2) := by decide +kernel
theorem dX4_trimByDraw_59 : decode cX4_trimByDraw 59 = .ok (.iload 5, 2) := by decide +kernel
theorem dX4_trimByDraw_61 : decode cX4_trimByDraw 61 = .ok (.invokevirtual 129, 3) := by decide +kernel
theorem dX4_trimByDraw_64 : decode cX4_trimByDraw 64 = .ok (.ifCond .eq 16, 3) := by decide +kernel
theorem dX4_trimByDraw_67 : decode cX4_trimByDraw 67 = .ok (.aload_n 1, 1) := by decide +kernel
theorem dX4_trimByDraw_68 : decode cX4_trimByDraw 68 = .ok (.iload 4, 2) := by decide +kernel
theorem dX4_trimByDraw_70 : decode cX4_trimByDraw 70 = .ok (.iload 5, 2) := by decide +kernel
theorem dX4_trimByDraw_72 : decode cX4_trimByDraw 72 = .ok (.iload 6, 2) := by decide +kernel
theorem dX4_trimByDraw_74 : decode cX4_trimByDraw 74 = .ok (.invokevirtual 136, 3) := by decide +kernel
theorem dX4_trimByDraw_77 : decode cX4_trimByDraw 77 = .ok (.goto 56, 3) := by decide +kernel
theorem dX4_trimByDraw_80 : decode cX4_trimByDraw 80 = .ok (.iload_n 3, 1) := by decide +kernel
theorem dX4_trimByDraw_81 : decode cX4_trimByDraw 81 = .ok (.iconst 3, 1) := by decide +kernel
theorem dX4_trimByDraw_82 : decode cX4_trimByDraw 82 = .ok (.if_icmp .ne 25, 3) := by decide +kernel
theorem dX4_trimByDraw_85 : decode cX4_trimByDraw 85 = .ok (.aload_n 1, 1) := by decide +kernel
theorem dX4_trimByDraw_86 : decode cX4_trimByDraw 86 = .ok (.iload 4, 2) := by decide +kernel
theorem dX4_trimByDraw_88 : decode cX4_trimByDraw 88 = .ok (.iload 5, 2) := by decide +kernel
theorem dX4_trimByDraw_90 : decode cX4_trimByDraw 90 = .ok (.invokevirtual 140, 3) := by decide +kernel
theorem dX4_trimByDraw_93 : decode cX4_trimByDraw 93 = .ok (.ifCond .eq 14, 3) := by decide +kernel
theorem dX4_trimByDraw_96 : decode cX4_trimByDraw 96 = .ok (.aload_n 1, 1) := by decide +kernel
theorem dX4_trimByDraw_97 : decode cX4_trimByDraw 97 = .ok (.iload 4, 2) := by decide +kernel
theorem dX4_trimByDraw_99 : decode cX4_trimByDraw 99 = .ok (.iload 5, 2) := by decide +kernel
theorem dX4_trimByDraw_101 : decode cX4_trimByDraw 101 = .ok (.invokevirtual 143, 3) := by decide +kernel
theorem dX4_trimByDraw_104 : decode cX4_trimByDraw 104 = .ok (.goto 29, 3) := by decide +kernel
theorem dX4_trimByDraw_107 : decode cX4_trimByDraw 107 = .ok (.iload_n 3, 1) := by decide +kernel
theorem dX4_trimByDraw_108 : decode cX4_trimByDraw 108 = .ok (.iconst 4, 1) := by decide +kernel
theorem dX4_trimByDraw_109 : decode cX4_trimByDraw 109 = .ok (.if_icmp .ne 24, 3) := by decide +kernel
theorem dX4_trimByDraw_112 : decode cX4_trimByDraw 112 = .ok (.aload_n 1, 1) := by decide +kernel
theorem dX4_trimByDraw_113 : decode cX4_trimByDraw 113 = .ok (.iload 4, 2) := by decide +kernel
theorem dX4_trimByDraw_115 : decode cX4_trimByDraw 115 = .ok (.iload 5, 2) := by decide +kernel
theorem dX4_trimByDraw_117 : decode cX4_trimByDraw 117 = .ok (.invokevirtual 140, 3) := by decide +kernel
theorem dX4_trimByDraw_120 : decode cX4_trimByDraw 120 = .ok (.ifCond .eq 13, 3) := by decide +kernel
theorem dX4_trimByDraw_123 : decode cX4_trimByDraw 123 = .ok (.aload_n 1, 1) := by decide +kernel
theorem dX4_trimByDraw_124 : decode cX4_trimByDraw 124 = .ok (.iload 4, 2) := by decide +kernel
theorem dX4_trimByDraw_126 : decode cX4_trimByDraw 126 = .ok (.iload 5, 2) := by decide +kernel
theorem dX4_trimByDraw_128 : decode cX4_trimByDraw 128 = .ok (.iload 6, 2) := by decide +kernel
theorem dX4_trimByDraw_130 : decode cX4_trimByDraw 130 = .ok (.invokevirtual 147, 3) := by decide +kernel
theorem dX4_trimByDraw_133 : decode cX4_trimByDraw 133 = .ok (.return_, 1) := by decide +kernel
end
section
theorem dX5_in_0 : decode cX5_in 0 = .ok (.iload_n 0, 1) := by decide +kernel
theorem dX5_in_1 : decode cX5_in 1 = .ok (.iload_n 1, 1) := by decide +kernel
theorem dX5_in_2 : decode cX5_in 2 = .ok (.if_icmp .lt 12, 3) := by decide +kernel
theorem dX5_in_5 : decode cX5_in 5 = .ok (.iload_n 0, 1) := by decide +kernel
theorem dX5_in_6 : decode cX5_in 6 = .ok (.iload_n 2, 1) := by decide +kernel
theorem dX5_in_7 : decode cX5_in 7 = .ok (.if_icmp .gt 7, 3) := by decide +kernel
theorem dX5_in_10 : decode cX5_in 10 = .ok (.iconst 1, 1) := by decide +kernel
theorem dX5_in_11 : decode cX5_in 11 = .ok (.goto 4, 3) := by decide +kernel
theorem dX5_in_14 : decode cX5_in 14 = .ok (.iconst 0, 1) := by decide +kernel
theorem dX5_in_15 : decode cX5_in 15 = .ok (.ireturn, 1) := by decide +kernel
theorem dX5_has_0 : decode cX5_has 0 = .ok (.iload_n 0, 1) := by decide +kernel
theorem dX5_has_1 : decode cX5_has 1 = .ok (.iload_n 1, 1) := by decide +kernel
theorem dX5_has_2 : decode cX5_has 2 = .ok (.ishr, 1) := by decide +kernel
theorem dX5_has_3 : decode cX5_has 3 = .ok (.iconst 1, 1) := by decide +kernel
theorem dX5_has_4 : decode cX5_has 4 = .ok (.iand, 1) := by decide +kernel
theorem dX5_has_5 : decode cX5_has 5 = .ok (.iconst 1, 1) := by decide +kernel
theorem dX5_has_6 : decode cX5_has 6 = .ok (.if_icmp .ne 7, 3) := by decide +kernel
theorem dX5_has_9 : decode cX5_has 9 = .ok (.iconst 1, 1) := by decide +kernel
theorem dX5_has_10 : decode cX5_has 10 = .ok (.goto 4, 3) := by decide +kernel
theorem dX5_has_13 : decode cX5_has 13 = .ok (.iconst 0, 1) := by decide +kernel
theorem dX5_has_14 : decode cX5_has 14 = .ok (.ireturn, 1) := by decide +kernel
theorem dX5_greater_0 : decode cX5_greater 0 = .ok (.iload_n 0, 1) := by decide +kernel
theorem dX5_greater_1 : decode cX5_greater 1 = .ok (.iload_n 1, 1) := by decide +kernel
theorem dX5_greater_2 : decode cX5_greater 2 = .ok (.if_icmp .le 7, 3) := by decide +kernel
theorem dX5_greater_5 : decode cX5_greater 5 = .ok (.iload_n 0, 1) := by decide +kernel
theorem dX5_greater_6 : decode cX5_greater 6 = .ok (.goto 4, 3) := by decide +kernel
theorem dX5_greater_9 : decode cX5_greater 9 = .ok (.iload_n 1, 1) := by decide +kernel
theorem dX5_greater_10 : decode cX5_greater 10 = .ok (.ireturn, 1) := by decide +kernel
theorem dX5_bits_0 : decode cX5_bits 0 = .ok (.iconst 0, 1) := by decide +kernel
theorem dX5_bits_1 : decode cX5_bits 1 = .ok (.istore_n 1, 1) := by decide +kernel
theorem dX5_bits_2 : decode cX5_bits 2 = .ok (.iconst 0, 1) := by decide +kernel
theorem dX5_bits_3 : decode cX5_bits 3 = .ok (.istore_n 2, 1) := by decide +kernel
theorem dX5_bits_4 : decode cX5_bits 4 = .ok (.iload_n 2, 1) := by decide +kernel
theorem dX5_bits_5 : decode cX5_bits 5 = .ok (.bipush 6, 2) := by decide +kernel
theorem dX5_bits_7 : decode cX5_bits 7 = .ok (.if_icmp .ge 17, 3) := by decide +kernel
theorem dX5_bits_10 : decode cX5_bits 10 = .ok (.iload_n 1, 1) := by decide +kernel
theorem dX5_bits_11 : decode cX5_bits 11 = .ok (.iload_n 0, 1) := by decide +kernel
theorem dX5_bits_12 : decode cX5_bits 12 = .ok (.iload_n 2, 1) := by decide +kernel
theorem dX5_bits_13 : decode cX5_bits 13 = .ok (.ishr, 1) := by decide +kernel
theorem dX5_bits_14 : decode cX5_bits 14 = .ok (.iconst 1, 1) := by decide +kernel
theorem dX5_bits_15 : decode cX5_bits 15 = .ok (.iand, 1) := by decide +kernel
theorem dX5_bits_16 : decode cX5_bits 16 = .ok (.iadd, 1) := by decide +kernel
theorem dX5_bits_17 : decode cX5_bits 17 = .ok (.istore_n 1, 1) := by decide +kernel
theorem dX5_bits_18 : decode cX5_bits 18 = .ok (.iinc 2 1, 3) := by decide +kernel
theorem dX5_bits_21 : decode cX5_bits 21 = .ok (.goto (-17), 3) := by decide +kernel
theorem dX5_bits_24 : decode cX5_bits 24 = .ok (.iload_n 1, 1) := by decide +kernel
theorem dX5_bits_25 : decode cX5_bits 25 = .ok (.ireturn, 1) := by decide +kernel
theorem dX5_init_0 : decode cX5_init 0 = .ok (.aload_n 0, 1) := by decide +kernel
theorem dX5_init_1 : decode cX5_init 1 = .ok (.invokespecial 3, 3) := by decide +kernel
theorem dX5_init_4 : decode cX5_init 4 = .ok (.aload_n 0, 1) := by decide +kernel
theorem dX5_init_5 : decode cX5_init 5 = .ok (.bipush 6, 2) := by decide +kernel
theorem dX5_init_7 : decode cX5_init 7 = .ok (.newarray .int, 2) := by decide +kernel
theorem dX5_init_9 : decode cX5_init 9 = .ok (.putfield 9, 3) := by decide +kernel
theorem dX5_init_12 : decode cX5_init 12 = .ok (.aload_n 0, 1) := by decide +kernel
theorem dX5_init_13 : decode cX5_init 13 = .ok (.bipush 6, 2) := by decide +kernel
theorem dX5_init_15 : decode cX5_init 15 = .ok (.newarray .int, 2) := by decide +kernel
theorem dX5_init_17 : decode cX5_init 17 = .ok (.putfield 13, 3) := by decide +kernel
theorem dX5_init_20 : decode cX5_init 20 = .ok (.aload_n 0, 1) := by decide +kernel
theorem dX5_init_21 : decode cX5_init 21 = .ok (.bipush 12, 2) := by decide +kernel
theorem dX5_init_23 : decode cX5_init 23 = .ok (.newarray .int, 2) := by decide +kernel
theorem dX5_init_25 : decode cX5_init 25 = .ok (.putfield 16, 3) := by decide +kernel
theorem dX5_init_28 : decode cX5_init 28 = .ok (.aload_n 0, 1) := by decide +kernel
theorem dX5_init_29 : decode cX5_init 29 = .ok (.bipush 30, 2) := by decide +kernel
theorem dX5_init_31 : decode cX5_init 31 = .ok (.newarray .int, 2) := by decide +kernel
theorem dX5_init_33 : decode cX5_init 33 = .ok (.putfield 19, 3) := by decide +kernel
theorem dX5_init_36 : decode cX5_init 36 = .ok (.aload_n 0, 1) := by decide +kernel
theorem dX5_init_37 : decode cX5_init 37 = .ok (.iconst 5, 1) := by decide +kernel
theorem dX5_init_38 : decode cX5_init 38 = .ok (.newarray .int, 2) := by decide +kernel
theorem dX5_init_40 : decode cX5_init 40 = .ok (.putfield 22, 3) := by decide +kernel
theorem dX5_init_43 : decode cX5_init 43 = .ok (.aload_n 0, 1) := by decide +kernel
theorem dX5_init_44 : decode cX5_init 44 = .ok (.bipush 6, 2) := by decide +kernel
theorem dX5_init_46 : decode cX5_init 46 = .ok (.newarray .int, 2) := by decide +kernel
theorem dX5_init_48 : decode cX5_init 48 = .ok (.putfield 25, 3) := by decide +kernel
theorem dX5_init_51 : decode cX5_init 51 = .ok (.aload_n 0, 1) := by decide +kernel
theorem dX5_init_52 : decode cX5_init 52 = .ok (.bipush 6, 2) := by decide +kernel
theorem dX5_init_54 : decode cX5_init 54 = .ok (.newarray .int, 2) := by decide +kernel
theorem dX5_init_56 : decode cX5_init 56 = .ok (.putfield 28, 3) := by decide +kernel
theorem dX5_init_59 : decode cX5_init 59 = .ok (.aload_n 0, 1) := by decide +kernel
theorem dX5_init_60 : decode cX5_init 60 = .ok (.bipush 6, 2) := by decide +kernel
theorem dX5_init_62 : decode cX5_init 62 = .ok (.newarray .int, 2) := by decide +kernel
theorem dX5_init_64 : decode cX5_init 64 = .ok (.putfield 31, 3) := by decide +kernel
theorem dX5_init_67 : decode cX5_init 67 = .ok (.aload_n 0, 1) := by decide +kernel
theorem dX5_init_68 : decode cX5_init 68 = .ok (.sipush 200, 3) := by decide +kernel
theorem dX5_init_71 : decode cX5_init 71 = .ok (.newarray .int, 2) := by decide +kernel
theorem dX5_init_73 : decode cX5_init 73 = .ok (.putfield 34, 3) := by decide +kernel
theorem dX5_init_76 : decode cX5_init 76 = .ok (.aload_n 0, 1) := by decide +kernel
theorem dX5_init_77 : decode cX5_init 77 = .ok (.bipush 6, 2) := by decide +kernel
theorem dX5_init_79 : decode cX5_init 79 = .ok (.newarray .int, 2) := by decide +kernel
theorem dX5_init_81 : decode cX5_init 81 = .ok (.putfield 37, 3) := by decide +kernel
theorem dX5_init_84 : decode cX5_init 84 = .ok (.aload_n 0, 1) := by decide +kernel
theorem dX5_init_85 : decode cX5_init 85 = .ok (.bipush 6, 2) := by decide +kernel
theorem dX5_init_87 : decode cX5_init 87 = .ok (.newarray .int, 2) := by decide +kernel
theorem dX5_init_89 : decode cX5_init 89 = .ok (.putfield 40, 3) := by decide +kernel
theorem dX5_init_92 : decode cX5_init 92 = .ok (.aload_n 0, 1) := by decide +kernel
theorem dX5_init_93 : decode cX5_init 93 = .ok (.bipush 30, 2) := by decide +kernel
theorem dX5_init_95 : decode cX5_init 95 = .ok (.newarray .int, 2) := by decide +kernel
theorem dX5_init_97 : decode cX5_init 97 = .ok (.putfield 43, 3) := by decide +kernel
theorem dX5_init_100 : decode cX5_init 100 = .ok (.aload_n 0, 1) := by decide +kernel
theorem dX5_init_101 : decode cX5_init 101 = .ok (.iconst 5, 1) := by decide +kernel
theorem dX5_init_102 : decode cX5_init 102 = .ok (.newarray .int, 2) := by decide +kernel
theorem dX5_init_104 : decode cX5_init 104 = .ok (.putfield 46, 3) := by decide +kernel
theorem dX5_init_107 : decode cX5_init 107 = .ok (.aload_n 0, 1) := by decide +kernel
theorem dX5_init_108 : decode cX5_init 108 = .ok (.bipush 12, 2) := by decide +kernel
theorem dX5_init_110 : decode cX5_init 110 = .ok (.newarray .int, 2) := by decide +kernel
theorem dX5_init_112 : decode cX5_init 112 = .ok (.putfield 49, 3) := by decide +kernel
theorem dX5_init_115 : decode cX5_init 115 = .ok (.aload_n 0, 1) := by decide +kernel
theorem dX5_init_116 : decode cX5_init 116 = .ok (.sipush 336, 3) := by decide +kernel
theorem dX5_init_119 : decode cX5_init 119 = .ok (.newarray .int, 2) := by decide +kernel
theorem dX5_init_121 : decode cX5_init 121 = .ok (.putfield 52, 3) := by decide +kernel
theorem dX5_init_124 : decode cX5_init 124 = .ok (.aload_n 0, 1) := by decide +kernel
theorem dX5_init_125 : decode cX5_init 125 = .ok (.bipush 42, 2) := by decide +kernel
theorem dX5_init_127 : decode cX5_init 127 = .ok (.newarray .int, 2) := by decide +kernel
theorem dX5_init_129 : decode cX5_init 129 = .ok (.putfield 55, 3) := by decide +kernel
theorem dX5_init_132 : decode cX5_init 132 = .ok (.aload_n 0, 1) := by decide +kernel
theorem dX5_init_133 : decode cX5_init 133 = .ok (.iconst 2, 1) := by decide +kernel
theorem dX5_init_134 : decode cX5_init 134 = .ok (.newarray .int, 2) := by decide +kernel
theorem dX5_init_136 : decode cX5_init 136 = .ok (.putfield 58, 3) := by decide +kernel
theorem dX5_init_139 : decode cX5_init 139 = .ok (.aload_n 0, 1) := by decide +kernel
theorem dX5_init_140 : decode cX5_init 140 = .ok (.bipush 64, 2) := by decide +kernel
theorem dX5_init_142 : decode cX5_init 142 = .ok (.newarray .int, 2) := by decide +kernel
theorem dX5_init_144 : decode cX5_init 144 = .ok (.putfield 61, 3) := by decide +kernel
theorem dX5_init_147 : decode cX5_init 147 = .ok (.aload_n 0, 1) := by decide +kernel
theorem dX5_init_148 : decode cX5_init 148 = .ok (.bipush 84, 2) := by decide +kernel
theorem dX5_init_150 : decode cX5_init 150 = .ok (.newarray .int, 2) := by decide +kernel
theorem dX5_init_152 : decode cX5_init 152 = .ok (.putfield 64, 3) := by decide +kernel
theorem dX5_init_155 : decode cX5_init 155 = .ok (.aload_n 0, 1) := by decide +kernel
theorem dX5_init_156 : decode cX5_init 156 = .ok (.iconst 0, 1) := by decide +kernel
theorem dX5_init_157 : decode cX5_init 157 = .ok (.bipush 9, 2) := by decide +kernel
theorem dX5_init_159 : decode cX5_init 159 = .ok (.invokevirtual 67, 3) := by decide +kernel
theorem dX5_init_162 : decode cX5_init 162 = .ok (.aload_n 0, 1) := by decide +kernel
theorem dX5_init_163 : decode cX5_init 163 = .ok (.iconst 1, 1) := by decide +kernel
theorem dX5_init_164 : decode cX5_init 164 = .ok (.bipush 14, 2) := by decide +kernel
theorem dX5_init_166 : decode cX5_init 166 = .ok (.invokevirtual 67, 3) := by decide +kernel
theorem dX5_init_169 : decode cX5_init 169 = .ok (.aload_n 0, 1) := by decide +kernel
theorem dX5_init_170 : decode cX5_init 170 = .ok (.iconst 2, 1) := by decide +kernel
theorem dX5_init_171 : decode cX5_init 171 = .ok (.bipush 6, 2) := by decide +kernel
theorem dX5_init_173 : decode cX5_init 173 = .ok (.invokevirtual 67, 3) := by decide +kernel
theorem dX5_init_176 : decode cX5_init 176 = .ok (.aload_n 0, 1) := by decide +kernel
theorem dX5_init_177 : decode cX5_init 177 = .ok (.iconst 3, 1) := by decide +kernel
theorem dX5_init_178 : decode cX5_init 178 = .ok (.bipush 11, 2) := by decide +kernel
theorem dX5_init_180 : decode cX5_init 180 = .ok (.invokevirtual 67, 3) := by decide +kernel
theorem dX5_init_183 : decode cX5_init 183 = .ok (.aload_n 0, 1) := by decide +kernel
theorem dX5_init_184 : decode cX5_init 184 = .ok (.iconst 0, 1) := by decide +kernel
theorem dX5_init_185 : decode cX5_init 185 = .ok (.bipush 17, 2) := by decide +kernel
theorem dX5_init_187 : decode cX5_init 187 = .ok (.invokevirtual 67, 3) := by decide +kernel
theorem dX5_init_190 : decode cX5_init 190 = .ok (.iconst 0, 1) := by decide +kernel
theorem dX5_init_191 : decode cX5_init 191 = .ok (.istore_n 1, 1) := by decide +kernel
theorem dX5_init_192 : decode cX5_init 192 = .ok (.iload_n 1, 1) := by decide +kernel
theorem dX5_init_193 : decode cX5_init 193 = .ok (.iconst 5, 1) := by decide +kernel
theorem dX5_init_194 : decode cX5_init 194 = .ok (.if_icmp .ge 16, 3) := by decide +kernel
theorem dX5_init_197 : decode cX5_init 197 = .ok (.aload_n 0, 1) := by decide +kernel
theorem dX5_init_198 : decode cX5_init 198 = .ok (.getfield 22, 3) := by decide +kernel
theorem dX5_init_201 : decode cX5_init 201 = .ok (.iload_n 1, 1) := by decide +kernel
theorem dX5_init_202 : decode cX5_init 202 = .ok (.iconst 2, 1) := by decide +kernel
theorem dX5_init_203 : decode cX5_init 203 = .ok (.iastore, 1) := by decide +kernel
theorem dX5_init_204 : decode cX5_init 204 = .ok (.iinc 1 1, 3) := by decide +kernel
theorem dX5_init_207 : decode cX5_init 207 = .ok (.goto (-15), 3) := by decide +kernel
theorem dX5_init_210 : decode cX5_init 210 = .ok (.aload_n 0, 1) := by decide +kernel
theorem dX5_init_211 : decode cX5_init 211 = .ok (.getfield 22, 3) := by decide +kernel
theorem dX5_init_214 : decode cX5_init 214 = .ok (.iconst 0, 1) := by decide +kernel
theorem dX5_init_215 : decode cX5_init 215 = .ok (.iconst 3, 1) := by decide +kernel
theorem dX5_init_216 : decode cX5_init 216 = .ok (.iastore, 1) := by decide +kernel
theorem dX5_init_217 : decode cX5_init 217 = .ok (.aload_n 0, 1) := by decide +kernel
theorem dX5_init_218 : decode cX5_init 218 = .ok (.getfield 22, 3) := by decide +kernel
theorem dX5_init_221 : decode cX5_init 221 = .ok (.iconst 1, 1) := by decide +kernel
theorem dX5_init_222 : decode cX5_init 222 = .ok (.iconst 1, 1) := by decide +kernel
theorem dX5_init_223 : decode cX5_init 223 = .ok (.iastore, 1) := by decide +kernel
theorem dX5_init_224 : decode cX5_init 224 = .ok (.aload_n 0, 1) := by decide +kernel
theorem dX5_init_225 : decode cX5_init 225 = .ok (.getfield 22, 3) := by decide +kernel
theorem dX5_init_228 : decode cX5_init 228 = .ok (.iconst 3, 1) := by decide +kernel
theorem dX5_init_229 : decode cX5_init 229 = .ok (.iconst 4, 1) := by decide +kernel
theorem dX5_init_230 : decode cX5_init 230 = .ok (.iastore, 1) := by decide +kernel
theorem dX5_init_231 : decode cX5_init 231 = .ok (.aload_n 0, 1) := by decide +kernel
theorem dX5_init_232 : decode cX5_init 232 = .ok (.getfield 19, 3) := by decide +kernel
theorem dX5_init_235 : decode cX5_init 235 = .ok (.iconst 0, 1) := by decide +kernel
theorem dX5_init_236 : decode cX5_init 236 = .ok (.iconst 5, 1) := by decide +kernel
theorem dX5_init_237 : decode cX5_init 237 = .ok (.iastore, 1) := by decide +kernel
theorem dX5_init_238 : decode cX5_init 238 = .ok (.aload_n 0, 1) := by decide +kernel
theorem dX5_init_239 : decode cX5_init 239 = .ok (.getfield 19, 3) := by decide +kernel
theorem dX5_init_242 : decode cX5_init 242 = .ok (.iconst 2, 1) := by decide +kernel
theorem dX5_init_243 : decode cX5_init 243 = .ok (.iconst 3, 1) := by decide +kernel
theorem dX5_init_244 : decode cX5_init 244 = .ok (.iastore, 1) := by decide +kernel
theorem dX5_init_245 : decode cX5_init 245 = .ok (.aload_n 0, 1) := by decide +kernel
theorem dX5_init_246 : decode cX5_init 246 = .ok (.getfield 19, 3) := by decide +kernel
theorem dX5_init_249 : decode cX5_init 249 = .ok (.iconst 5, 1) := by decide +kernel
theorem dX5_init_250 : decode cX5_init 250 = .ok (.bipush 9, 2) := by decide +kernel
theorem dX5_init_252 : decode cX5_init 252 = .ok (.iastore, 1) := by decide +kernel
theorem dX5_init_253 : decode cX5_init 253 = .ok (.aload_n 0, 1) := by decide +kernel
theorem dX5_init_254 : decode cX5_init 254 = .ok (.getfield 19, 3) := by decide +kernel
theorem dX5_init_257 : decode cX5_init 257 = .ok (.bipush 11, 2) := by decide +kernel
theorem dX5_init_259 : decode cX5_init 259 = .ok (.iconst 2, 1) := by decide +kernel
theorem dX5_init_260 : decode cX5_init 260 = .ok (.iastore, 1) := by decide +kernel
theorem dX5_init_261 : decode cX5_init 261 = .ok (.aload_n 0, 1) := by decide +kernel
theorem dX5_init_262 : decode cX5_init 262 = .ok (.getfield 19, 3) := by decide +kernel
theorem dX5_init_265 : decode cX5_init 265 = .ok (.bipush 15, 2) := by decide +kernel
theorem dX5_init_267 : decode cX5_init 267 = .ok (.iconst 4, 1) := by decide +kernel
theorem dX5_init_268 : decode cX5_init 268 = .ok (.iastore, 1) := by decide +kernel
theorem dX5_init_269 : decode cX5_init 269 = .ok (.aload_n 0, 1) := by decide +kernel
theorem dX5_init_270 : decode cX5_init 270 = .ok (.getfield 19, 3) := by decide +kernel
theorem dX5_init_273 : decode cX5_init 273 = .ok (.bipush 17, 2) := by decide +kernel
theorem dX5_init_275 : decode cX5_init 275 = .ok (.bipush 6, 2) := by decide +kernel
theorem dX5_init_277 : decode cX5_init 277 = .ok (.iastore, 1) := by decide +kernel
theorem dX5_init_278 : decode cX5_init 278 = .ok (.aload_n 0, 1) := by decide +kernel
theorem dX5_init_279 : decode cX5_init 279 = .ok (.getfield 19, 3) := by decide +kernel
theorem dX5_init_282 : decode cX5_init 282 = .ok (.bipush 23, 2) := by decide +kernel
theorem dX5_init_284 : decode cX5_init 284 = .ok (.bipush 8, 2) := by decide +kernel
theorem dX5_init_286 : decode cX5_init 286 = .ok (.iastore, 1) := by decide +kernel
theorem dX5_init_287 : decode cX5_init 287 = .ok (.aload_n 0, 1) := by decide +kernel
theorem dX5_init_288 : decode cX5_init 288 = .ok (.getfield 16, 3) := by decide +kernel
theorem dX5_init_291 : decode cX5_init 291 = .ok (.iconst 0, 1) := by decide +kernel
theorem dX5_init_292 : decode cX5_init 292 = .ok (.iconst 3, 1) := by decide +kernel
theorem dX5_init_293 : decode cX5_init 293 = .ok (.iastore, 1) := by decide +kernel
theorem dX5_init_294 : decode cX5_init 294 = .ok (.aload_n 0, 1) := by decide +kernel
theorem dX5_init_295 : decode cX5_init 295 = .ok (.getfield 16, 3) := by decide +kernel
theorem dX5_init_298 : decode cX5_init 298 = .ok (.iconst 1, 1) := by decide +kernel
theorem dX5_init_299 : decode cX5_init 299 = .ok (.iconst 5, 1) := by decide +kernel
theorem dX5_init_300 : decode cX5_init 300 = .ok (.iastore, 1) := by decide +kernel
theorem dX5_init_301 : decode cX5_init 301 = .ok (.aload_n 0, 1) := by decide +kernel
theorem dX5_init_302 : decode cX5_init 302 = .ok (.getfield 16, 3) := by decide +kernel
theorem dX5_init_305 : decode cX5_init 305 = .ok (.iconst 2, 1) := by decide +kernel
theorem dX5_init_306 : decode cX5_init 306 = .ok (.iconst 2, 1) := by decide +kernel
theorem dX5_init_307 : decode cX5_init 307 = .ok (.iastore, 1) := by decide +kernel
theorem dX5_init_308 : decode cX5_init 308 = .ok (.aload_n 0, 1) := by decide +kernel
theorem dX5_init_309 : decode cX5_init 309 = .ok (.getfield 16, 3) := by decide +kernel
theorem dX5_init_312 : decode cX5_init 312 = .ok (.iconst 3, 1) := by decide +kernel
theorem dX5_init_313 : decode cX5_init 313 = .ok (.bipush 7, 2) := by decide +kernel
theorem dX5_init_315 : decode cX5_init 315 = .ok (.iastore, 1) := by decide +kernel
theorem dX5_init_316 : decode cX5_init 316 = .ok (.aload_n 0, 1) := by decide +kernel
theorem dX5_init_317 : decode cX5_init 317 = .ok (.iconst 4, 1) := by decide +kernel
theorem dX5_init_318 : decode cX5_init 318 = .ok (.putfield 71, 3) := by decide +kernel
theorem dX5_init_321 : decode cX5_init 321 = .ok (.aload_n 0, 1) := by decide +kernel
theorem dX5_init_322 : decode cX5_init 322 = .ok (.invokevirtual 75, 3) := by decide +kernel
theorem dX5_init_325 : decode cX5_init 325 = .ok (.return_, 1) := by decide +kernel
theorem dX5_firstPeak_0 : decode cX5_firstPeak 0 = .ok (.aload_n 0, 1) := by decide +kernel
theorem dX5_firstPeak_1 : decode cX5_firstPeak 1 = .ok (.getfield 9, 3) := by decide +kernel
theorem dX5_firstPeak_4 : decode cX5_firstPeak 4 = .ok (.aload_n 0, 1) := by decide +kernel
theorem dX5_firstPeak_5 : decode cX5_firstPeak 5 = .ok (.getfield 78, 3) := by decide +kernel
theorem dX5_firstPeak_8 : decode cX5_firstPeak 8 = .ok (.iload_n 1, 1) := by decide +kernel
theorem dX5_firstPeak_9 : decode cX5_firstPeak 9 = .ok (.iastore, 1) := by decide +kernel
theorem dX5_firstPeak_10 : decode cX5_firstPeak 10 = .ok (.aload_n 0, 1) := by decide +kernel
theorem dX5_firstPeak_11 : decode cX5_firstPeak 11 = .ok (.getfield 13, 3) := by decide +kernel
theorem dX5_firstPeak_14 : decode cX5_firstPeak 14 = .ok (.aload_n 0, 1) := by decide +kernel
theorem dX5_firstPeak_15 : decode cX5_firstPeak 15 = .ok (.getfield 78, 3) := by decide +kernel
theorem dX5_firstPeak_18 : decode cX5_firstPeak 18 = .ok (.iload_n 2, 1) := by decide +kernel
theorem dX5_firstPeak_19 : decode cX5_firstPeak 19 = .ok (.iastore, 1) := by decide +kernel
theorem dX5_firstPeak_20 : decode cX5_firstPeak 20 = .ok (.aload_n 0, 1) := by decide +kernel
theorem dX5_firstPeak_21 : decode cX5_firstPeak 21 = .ok (.dup, 1) := by decide +kernel
theorem dX5_firstPeak_22 : decode cX5_firstPeak 22 = .ok (.getfield 78, 3) := by decide +kernel
theorem dX5_firstPeak_25 : decode cX5_firstPeak 25 = .ok (.iconst 1, 1) := by decide +kernel
theorem dX5_firstPeak_26 : decode cX5_firstPeak 26 = .ok (.iadd, 1) := by decide +kernel
theorem dX5_firstPeak_27 : decode cX5_firstPeak 27 = .ok (.putfield 78, 3) := by decide +kernel
theorem dX5_firstPeak_30 : decode cX5_firstPeak 30 = .ok (.return_, 1) := by decide +kernel
theorem dX5_isPeak_0 : decode cX5_isPeak 0 = .ok (.iload_n 1, 1) := by decide +kernel
theorem dX5_isPeak_1 : decode cX5_isPeak 1 = .ok (.iconst 0, 1) := by decide +kernel
theorem dX5_isPeak_2 : decode cX5_isPeak 2 = .ok (.aload_n 0, 1) := by decide +kernel
theorem dX5_isPeak_3 : decode cX5_isPeak 3 = .ok (.getfield 78, 3) := by decide +kernel
theorem dX5_isPeak_6 : decode cX5_isPeak 6 = .ok (.iconst 1, 1) := by decide +kernel
theorem dX5_isPeak_7 : decode cX5_isPeak 7 = .ok (.isub, 1) := by decide +kernel
theorem dX5_isPeak_8 : decode cX5_isPeak 8 = .ok (.invokestatic 81, 3) := by decide +kernel
theorem dX5_isPeak_11 : decode cX5_isPeak 11 = .ok (.ireturn, 1) := by decide +kernel
theorem dX5_isTrimming_0 : decode cX5_isTrimming 0 = .ok (.iload_n 0, 1) := by decide +kernel
theorem dX5_isTrimming_1 : decode cX5_isTrimming 1 = .ok (.iconst 0, 1) := by decide +kernel
theorem dX5_isTrimming_2 : decode cX5_isTrimming 2 = .ok (.iconst 4, 1) := by decide +kernel
theorem dX5_isTrimming_3 : decode cX5_isTrimming 3 = .ok (.invokestatic 81, 3) := by decide +kernel
theorem dX5_isTrimming_6 : decode cX5_isTrimming 6 = .ok (.ireturn, 1) := by decide +kernel
theorem dX5_looks_0 : decode cX5_looks 0 = .ok (.iconst 0, 1) := by decide +kernel
theorem dX5_looks_1 : decode cX5_looks 1 = .ok (.istore_n 2, 1) := by decide +kernel
theorem dX5_looks_2 : decode cX5_looks 2 = .ok (.iconst 0, 1) := by decide +kernel
theorem dX5_looks_3 : decode cX5_looks 3 = .ok (.istore_n 3, 1) := by decide +kernel
theorem dX5_looks_4 : decode cX5_looks 4 = .ok (.iload_n 3, 1) := by decide +kernel
theorem dX5_looks_5 : decode cX5_looks 5 = .ok (.iconst 5, 1) := by decide +kernel
theorem dX5_looks_6 : decode cX5_looks 6 = .ok (.if_icmp .ge 32, 3) := by decide +kernel
theorem dX5_looks_9 : decode cX5_looks 9 = .ok (.iload_n 2, 1) := by decide +kernel
theorem dX5_looks_10 : decode cX5_looks 10 = .ok (.aload_n 0, 1) := by decide +kernel
theorem dX5_looks_11 : decode cX5_looks 11 = .ok (.getfield 19, 3) := by decide +kernel
theorem dX5_looks_14 : decode cX5_looks 14 = .ok (.iconst 5, 1) := by decide +kernel
theorem dX5_looks_15 : decode cX5_looks 15 = .ok (.iload_n 1, 1) := by decide +kernel
theorem dX5_looks_16 : decode cX5_looks 16 = .ok (.imul, 1) := by decide +kernel
theorem dX5_looks_17 : decode cX5_looks 17 = .ok (.iload_n 3, 1) := by decide +kernel
theorem dX5_looks_18 : decode cX5_looks 18 = .ok (.iadd, 1) := by decide +kernel
theorem dX5_looks_19 : decode cX5_looks 19 = .ok (.iaload, 1) := by decide +kernel
theorem dX5_looks_20 : decode cX5_looks 20 = .ok (.ifCond .le 9, 3) := by decide +kernel
theorem dX5_looks_23 : decode cX5_looks 23 = .ok (.iconst 1, 1) := by decide +kernel
theorem dX5_looks_24 : decode cX5_looks 24 = .ok (.iload_n 3, 1) := by decide +kernel
theorem dX5_looks_25 : decode cX5_looks 25 = .ok (.ishl, 1) := by decide +kernel
theorem dX5_looks_26 : decode cX5_looks 26 = .ok (.goto 4, 3) := by decide +kernel
theorem dX5_looks_29 : decode cX5_looks 29 = .ok (.iconst 0, 1) := by decide +kernel
theorem dX5_looks_30 : decode cX5_looks 30 = .ok (.ior, 1) := by decide +kernel
theorem dX5_looks_31 : decode cX5_looks 31 = .ok (.istore_n 2, 1) := by decide +kernel
theorem dX5_looks_32 : decode cX5_looks 32 = .ok (.iinc 3 1, 3) := by decide +kernel
theorem dX5_looks_35 : decode cX5_looks 35 = .ok (.goto (-31), 3) := by decide +kernel
theorem dX5_looks_38 : decode cX5_looks 38 = .ok (.iload_n 2, 1) := by decide +kernel
theorem dX5_looks_39 : decode cX5_looks 39 = .ok (.ireturn, 1) := by decide +kernel
theorem dX5_setGuides_0 : decode cX5_setGuides 0 = .ok (.iconst 0, 1) := by decide +kernel
theorem dX5_setGuides_1 : decode cX5_setGuides 1 = .ok (.istore_n 1, 1) := by decide +kernel
theorem dX5_setGuides_2 : decode cX5_setGuides 2 = .ok (.iload_n 1, 1) := by decide +kernel
theorem dX5_setGuides_3 : decode cX5_setGuides 3 = .ok (.aload_n 0, 1) := by decide +kernel
theorem dX5_setGuides_4 : decode cX5_setGuides 4 = .ok (.getfield 78, 3) := by decide +kernel
theorem dX5_setGuides_7 : decode cX5_setGuides 7 = .ok (.if_icmp .ge 20, 3) := by decide +kernel
theorem dX5_setGuides_10 : decode cX5_setGuides 10 = .ok (.aload_n 0, 1) := by decide +kernel
theorem dX5_setGuides_11 : decode cX5_setGuides 11 = .ok (.getfield 25, 3) := by decide +kernel
theorem dX5_setGuides_14 : decode cX5_setGuides 14 = .ok (.iload_n 1, 1) := by decide +kernel
theorem dX5_setGuides_15 : decode cX5_setGuides 15 = .ok (.aload_n 0, 1) := by decide +kernel
theorem dX5_setGuides_16 : decode cX5_setGuides 16 = .ok (.iload_n 1, 1) := by decide +kernel
theorem dX5_setGuides_17 : decode cX5_setGuides 17 = .ok (.invokevirtual 85, 3) := by decide +kernel
theorem dX5_setGuides_20 : decode cX5_setGuides 20 = .ok (.iastore, 1) := by decide +kernel
theorem dX5_setGuides_21 : decode cX5_setGuides 21 = .ok (.iinc 1 1, 3) := by decide +kernel
theorem dX5_setGuides_24 : decode cX5_setGuides 24 = .ok (.goto (-22), 3) := by decide +kernel
theorem dX5_setGuides_27 : decode cX5_setGuides 27 = .ok (.return_, 1) := by decide +kernel
theorem dX5_write_0 : decode cX5_write 0 = .ok (.iload_n 1, 1) := by decide +kernel
theorem dX5_write_1 : decode cX5_write 1 = .ok (.bipush 32, 2) := by decide +kernel
theorem dX5_write_3 : decode cX5_write 3 = .ok (.bipush 126, 2) := by decide +kernel
theorem dX5_write_5 : decode cX5_write 5 = .ok (.invokestatic 81, 3) := by decide +kernel
theorem dX5_write_8 : decode cX5_write 8 = .ok (.ifCond .ne 5, 3) := by decide +kernel
theorem dX5_write_11 : decode cX5_write 11 = .ok (.iconst (-1), 1) := by decide +kernel
theorem dX5_write_12 : decode cX5_write 12 = .ok (.ireturn, 1) := by decide +kernel
theorem dX5_write_13 : decode cX5_write 13 = .ok (.aload_n 0, 1) := by decide +kernel
theorem dX5_write_14 : decode cX5_write 14 = .ok (.getfield 89, 3) := by decide +kernel
theorem dX5_write_17 : decode cX5_write 17 = .ok (.sipush 200, 3) := by decide +kernel
theorem dX5_write_20 : decode cX5_write 20 = .ok (.if_icmp .ne 6, 3) := by decide +kernel
theorem dX5_write_23 : decode cX5_write 23 = .ok (.bipush (-3), 2) := by decide +kernel
theorem dX5_write_25 : decode cX5_write 25 = .ok (.ireturn, 1) := by decide +kernel
theorem dX5_write_26 : decode cX5_write 26 = .ok (.aload_n 0, 1) := by decide +kernel
theorem dX5_write_27 : decode cX5_write 27 = .ok (.getfield 34, 3) := by decide +kernel
theorem dX5_write_30 : decode cX5_write 30 = .ok (.aload_n 0, 1) := by decide +kernel
theorem dX5_write_31 : decode cX5_write 31 = .ok (.getfield 89, 3) := by decide +kernel
theorem dX5_write_34 : decode cX5_write 34 = .ok (.iload_n 1, 1) := by decide +kernel
theorem dX5_write_35 : decode cX5_write 35 = .ok (.iastore, 1) := by decide +kernel
theorem dX5_write_36 : decode cX5_write 36 = .ok (.aload_n 0, 1) := by decide +kernel
theorem dX5_write_37 : decode cX5_write 37 = .ok (.dup, 1) := by decide +kernel
theorem dX5_write_38 : decode cX5_write 38 = .ok (.getfield 89, 3) := by decide +kernel
theorem dX5_write_41 : decode cX5_write 41 = .ok (.iconst 1, 1) := by decide +kernel
theorem dX5_write_42 : decode cX5_write 42 = .ok (.iadd, 1) := by decide +kernel
theorem dX5_write_43 : decode cX5_write 43 = .ok (.putfield 89, 3) := by decide +kernel
theorem dX5_write_46 : decode cX5_write 46 = .ok (.aload_n 0, 1) := by decide +kernel
theorem dX5_write_47 : decode cX5_write 47 = .ok (.getfield 89, 3) := by decide +kernel
theorem dX5_write_50 : decode cX5_write 50 = .ok (.ireturn, 1) := by decide +kernel
theorem dX5_wipe_0 : decode cX5_wipe 0 = .ok (.aload_n 0, 1) := by decide +kernel
theorem dX5_wipe_1 : decode cX5_wipe 1 = .ok (.getfield 89, 3) := by decide +kernel
theorem dX5_wipe_4 : decode cX5_wipe 4 = .ok (.istore_n 1, 1) := by decide +kernel
theorem dX5_wipe_5 : decode cX5_wipe 5 = .ok (.aload_n 0, 1) := by decide +kernel
theorem dX5_wipe_6 : decode cX5_wipe 6 = .ok (.iconst 0, 1) := by decide +kernel
theorem dX5_wipe_7 : decode cX5_wipe 7 = .ok (.putfield 89, 3) := by decide +kernel
theorem dX5_wipe_10 : decode cX5_wipe 10 = .ok (.iload_n 1, 1) := by decide +kernel
theorem dX5_wipe_11 : decode cX5_wipe 11 = .ok (.ireturn, 1) := by decide +kernel
theorem dX5_here_0 : decode cX5_here 0 = .ok (.aload_n 0, 1) := by decide +kernel
theorem dX5_here_1 : decode cX5_here 1 = .ok (.getfield 92, 3) := by decide +kernel
theorem dX5_here_4 : decode cX5_here 4 = .ok (.aload_n 0, 1) := by decide +kernel
theorem dX5_here_5 : decode cX5_here 5 = .ok (.getfield 89, 3) := by decide +kernel
theorem dX5_here_8 : decode cX5_here 8 = .ok (.if_icmp .ge 15, 3) := by decide +kernel
theorem dX5_here_11 : decode cX5_here 11 = .ok (.aload_n 0, 1) := by decide +kernel
theorem dX5_here_12 : decode cX5_here 12 = .ok (.getfield 34, 3) := by decide +kernel
theorem dX5_here_15 : decode cX5_here 15 = .ok (.aload_n 0, 1) := by decide +kernel
theorem dX5_here_16 : decode cX5_here 16 = .ok (.getfield 92, 3) := by decide +kernel
theorem dX5_here_19 : decode cX5_here 19 = .ok (.iaload, 1) := by decide +kernel
theorem dX5_here_20 : decode cX5_here 20 = .ok (.goto 4, 3) := by decide +kernel
theorem dX5_here_23 : decode cX5_here 23 = .ok (.iconst 0, 1) := by decide +kernel
theorem dX5_here_24 : decode cX5_here 24 = .ok (.ireturn, 1) := by decide +kernel
theorem dX5_isFigure_0 : decode cX5_isFigure 0 = .ok (.aload_n 0, 1) := by decide +kernel
theorem dX5_isFigure_1 : decode cX5_isFigure 1 = .ok (.invokevirtual 95, 3) := by decide +kernel
theorem dX5_isFigure_4 : decode cX5_isFigure 4 = .ok (.bipush 48, 2) := by decide +kernel
theorem dX5_isFigure_6 : decode cX5_isFigure 6 = .ok (.bipush 57, 2) := by decide +kernel
theorem dX5_isFigure_8 : decode cX5_isFigure 8 = .ok (.invokestatic 81, 3) := by decide +kernel
theorem dX5_isFigure_11 : decode cX5_isFigure 11 = .ok (.ireturn, 1) := by decide +kernel
theorem dX5_number_0 : decode cX5_number 0 = .ok (.aload_n 0, 1) := by decide +kernel
theorem dX5_number_1 : decode cX5_number 1 = .ok (.invokevirtual 99, 3) := by decide +kernel
theorem dX5_number_4 : decode cX5_number 4 = .ok (.ifCond .ne 5, 3) := by decide +kernel
theorem dX5_number_7 : decode cX5_number 7 = .ok (.iconst 0, 1) := by decide +kernel
theorem dX5_number_8 : decode cX5_number 8 = .ok (.ireturn, 1) := by decide +kernel
theorem dX5_number_9 : decode cX5_number 9 = .ok (.aload_n 0, 1) := by decide +kernel
theorem dX5_number_10 : decode cX5_number 10 = .ok (.invokevirtual 95, 3) := by decide +kernel
theorem dX5_number_13 : decode cX5_number 13 = .ok (.bipush 48, 2) := by decide +kernel
theorem dX5_number_15 : decode cX5_number 15 = .ok (.isub, 1) := by decide +kernel
theorem dX5_number_16 : decode cX5_number 16 = .ok (.istore 4, 2) := by decide +kernel
theorem dX5_number_18 : decode cX5_number 18 = .ok (.aload_n 0, 1) := by decide +kernel
theorem dX5_number_19 : decode cX5_number 19 = .ok (.dup, 1) := by decide +kernel
theorem dX5_number_20 : decode cX5_number 20 = .ok (.getfield 92, 3) := by decide +kernel
theorem dX5_number_23 : decode cX5_number 23 = .ok (.iconst 1, 1) := by decide +kernel
theorem dX5_number_24 : decode cX5_number 24 = .ok (.iadd, 1) := by decide +kernel
theorem dX5_number_25 : decode cX5_number 25 = .ok (.putfield 92, 3) := by decide +kernel
theorem dX5_number_28 : decode cX5_number 28 = .ok (.aload_n 0, 1) := by decide +kernel
theorem dX5_number_29 : decode cX5_number 29 = .ok (.invokevirtual 99, 3) := by decide +kernel
theorem dX5_number_32 : decode cX5_number 32 = .ok (.ifCond .eq 28, 3) := by decide +kernel
theorem dX5_number_35 : decode cX5_number 35 = .ok (.bipush 10, 2) := by decide +kernel
theorem dX5_number_37 : decode cX5_number 37 = .ok (.iload 4, 2) := by decide +kernel
theorem dX5_number_39 : decode cX5_number 39 = .ok (.imul, 1) := by decide +kernel
theorem dX5_number_40 : decode cX5_number 40 = .ok (.aload_n 0, 1) := by decide +kernel
theorem dX5_number_41 : decode cX5_number 41 = .ok (.invokevirtual 95, 3) := by decide +kernel
theorem dX5_number_44 : decode cX5_number 44 = .ok (.iadd, 1) := by decide +kernel
theorem dX5_number_45 : decode cX5_number 45 = .ok (.bipush 48, 2) := by decide +kernel
theorem dX5_number_47 : decode cX5_number 47 = .ok (.isub, 1) := by decide +kernel
theorem dX5_number_48 : decode cX5_number 48 = .ok (.istore 4, 2) := by decide +kernel
theorem dX5_number_50 : decode cX5_number 50 = .ok (.aload_n 0, 1) := by decide +kernel
theorem dX5_number_51 : decode cX5_number 51 = .ok (.dup, 1) := by decide +kernel
theorem dX5_number_52 : decode cX5_number 52 = .ok (.getfield 92, 3) := by decide +kernel
theorem dX5_number_55 : decode cX5_number 55 = .ok (.iconst 1, 1) := by decide +kernel
theorem dX5_number_56 : decode cX5_number 56 = .ok (.iadd, 1) := by decide +kernel
theorem dX5_number_57 : decode cX5_number 57 = .ok (.putfield 92, 3) := by decide +kernel
theorem dX5_number_60 : decode cX5_number 60 = .ok (.aload_n 0, 1) := by decide +kernel
theorem dX5_number_61 : decode cX5_number 61 = .ok (.iload 4, 2) := by decide +kernel
theorem dX5_number_63 : decode cX5_number 63 = .ok (.putfield 103, 3) := by decide +kernel
theorem dX5_number_66 : decode cX5_number 66 = .ok (.aload_n 0, 1) := by decide +kernel
theorem dX5_number_67 : decode cX5_number 67 = .ok (.invokevirtual 95, 3) := by decide +kernel
theorem dX5_number_70 : decode cX5_number 70 = .ok (.iload_n 3, 1) := by decide +kernel
theorem dX5_number_71 : decode cX5_number 71 = .ok (.if_icmp .ne 13, 3) := by decide +kernel
theorem dX5_number_74 : decode cX5_number 74 = .ok (.iload 4, 2) := by decide +kernel
theorem dX5_number_76 : decode cX5_number 76 = .ok (.iload_n 1, 1) := by decide +kernel
theorem dX5_number_77 : decode cX5_number 77 = .ok (.iload_n 2, 1) := by decide +kernel
theorem dX5_number_78 : decode cX5_number 78 = .ok (.invokestatic 81, 3) := by decide +kernel
theorem dX5_number_81 : decode cX5_number 81 = .ok (.ifCond .ne 5, 3) := by decide +kernel
theorem dX5_number_84 : decode cX5_number 84 = .ok (.iconst 0, 1) := by decide +kernel
theorem dX5_number_85 : decode cX5_number 85 = .ok (.ireturn, 1) := by decide +kernel
theorem dX5_number_86 : decode cX5_number 86 = .ok (.aload_n 0, 1) := by decide +kernel
theorem dX5_number_87 : decode cX5_number 87 = .ok (.dup, 1) := by decide +kernel
theorem dX5_number_88 : decode cX5_number 88 = .ok (.getfield 92, 3) := by decide +kernel
theorem dX5_number_91 : decode cX5_number 91 = .ok (.iconst 1, 1) := by decide +kernel
theorem dX5_number_92 : decode cX5_number 92 = .ok (.iadd, 1) := by decide +kernel
theorem dX5_number_93 : decode cX5_number 93 = .ok (.putfield 92, 3) := by decide +kernel
theorem dX5_number_96 : decode cX5_number 96 = .ok (.iconst 1, 1) := by decide +kernel
theorem dX5_number_97 : decode cX5_number 97 = .ok (.ireturn, 1) := by decide +kernel
theorem dX5_readsPeak_0 : decode cX5_readsPeak 0 = .ok (.aload_n 0, 1) := by decide +kernel
theorem dX5_readsPeak_1 : decode cX5_readsPeak 1 = .ok (.getfield 106, 3) := by decide +kernel
theorem dX5_readsPeak_4 : decode cX5_readsPeak 4 = .ok (.bipush 6, 2) := by decide +kernel
theorem dX5_readsPeak_6 : decode cX5_readsPeak 6 = .ok (.if_icmp .eq 14, 3) := by decide +kernel
theorem dX5_readsPeak_9 : decode cX5_readsPeak 9 = .ok (.aload_n 0, 1) := by decide +kernel
theorem dX5_readsPeak_10 : decode cX5_readsPeak 10 = .ok (.iconst 0, 1) := by decide +kernel
theorem dX5_readsPeak_11 : decode cX5_readsPeak 11 = .ok (.iconst 3, 1) := by decide +kernel
theorem dX5_readsPeak_12 : decode cX5_readsPeak 12 = .ok (.bipush 44, 2) := by decide +kernel
theorem dX5_readsPeak_14 : decode cX5_readsPeak 14 = .ok (.invokevirtual 109, 3) := by decide +kernel
theorem dX5_readsPeak_17 : decode cX5_readsPeak 17 = .ok (.ifCond .ne 5, 3) := by decide +kernel
theorem dX5_readsPeak_20 : decode cX5_readsPeak 20 = .ok (.iconst 0, 1) := by decide +kernel
theorem dX5_readsPeak_21 : decode cX5_readsPeak 21 = .ok (.ireturn, 1) := by decide +kernel
theorem dX5_readsPeak_22 : decode cX5_readsPeak 22 = .ok (.aload_n 0, 1) := by decide +kernel
theorem dX5_readsPeak_23 : decode cX5_readsPeak 23 = .ok (.getfield 103, 3) := by decide +kernel
theorem dX5_readsPeak_26 : decode cX5_readsPeak 26 = .ok (.istore_n 1, 1) := by decide +kernel
theorem dX5_readsPeak_27 : decode cX5_readsPeak 27 = .ok (.aload_n 0, 1) := by decide +kernel
theorem dX5_readsPeak_28 : decode cX5_readsPeak 28 = .ok (.iconst 1, 1) := by decide +kernel
theorem dX5_readsPeak_29 : decode cX5_readsPeak 29 = .ok (.bipush 20, 2) := by decide +kernel
theorem dX5_readsPeak_31 : decode cX5_readsPeak 31 = .ok (.bipush 59, 2) := by decide +kernel
theorem dX5_readsPeak_33 : decode cX5_readsPeak 33 = .ok (.invokevirtual 109, 3) := by decide +kernel
theorem dX5_readsPeak_36 : decode cX5_readsPeak 36 = .ok (.ifCond .ne 5, 3) := by decide +kernel
theorem dX5_readsPeak_39 : decode cX5_readsPeak 39 = .ok (.iconst 0, 1) := by decide +kernel
theorem dX5_readsPeak_40 : decode cX5_readsPeak 40 = .ok (.ireturn, 1) := by decide +kernel
theorem dX5_readsPeak_41 : decode cX5_readsPeak 41 = .ok (.aload_n 0, 1) := by decide +kernel
theorem dX5_readsPeak_42 : decode cX5_readsPeak 42 = .ok (.getfield 37, 3) := by decide +kernel
theorem dX5_readsPeak_45 : decode cX5_readsPeak 45 = .ok (.aload_n 0, 1) := by decide +kernel
theorem dX5_readsPeak_46 : decode cX5_readsPeak 46 = .ok (.getfield 106, 3) := by decide +kernel
theorem dX5_readsPeak_49 : decode cX5_readsPeak 49 = .ok (.iload_n 1, 1) := by decide +kernel
theorem dX5_readsPeak_50 : decode cX5_readsPeak 50 = .ok (.iastore, 1) := by decide +kernel
theorem dX5_readsPeak_51 : decode cX5_readsPeak 51 = .ok (.aload_n 0, 1) := by decide +kernel
theorem dX5_readsPeak_52 : decode cX5_readsPeak 52 = .ok (.getfield 40, 3) := by decide +kernel
theorem dX5_readsPeak_55 : decode cX5_readsPeak 55 = .ok (.aload_n 0, 1) := by decide +kernel
theorem dX5_readsPeak_56 : decode cX5_readsPeak 56 = .ok (.getfield 106, 3) := by decide +kernel
theorem dX5_readsPeak_59 : decode cX5_readsPeak 59 = .ok (.aload_n 0, 1) := by decide +kernel
theorem dX5_readsPeak_60 : decode cX5_readsPeak 60 = .ok (.getfield 103, 3) := by decide +kernel
theorem dX5_readsPeak_63 : decode cX5_readsPeak 63 = .ok (.iastore, 1) := by decide +kernel
theorem dX5_readsPeak_64 : decode cX5_readsPeak 64 = .ok (.aload_n 0, 1) := by decide +kernel
theorem dX5_readsPeak_65 : decode cX5_readsPeak 65 = .ok (.dup, 1) := by decide +kernel
theorem dX5_readsPeak_66 : decode cX5_readsPeak 66 = .ok (.getfield 106, 3) := by decide +kernel
theorem dX5_readsPeak_69 : decode cX5_readsPeak 69 = .ok (.iconst 1, 1) := by decide +kernel
theorem dX5_readsPeak_70 : decode cX5_readsPeak 70 = .ok (.iadd, 1) := by decide +kernel
theorem dX5_readsPeak_71 : decode cX5_readsPeak 71 = .ok (.putfield 106, 3) := by decide +kernel
theorem dX5_readsPeak_74 : decode cX5_readsPeak 74 = .ok (.iconst 1, 1) := by decide +kernel
theorem dX5_readsPeak_75 : decode cX5_readsPeak 75 = .ok (.ireturn, 1) := by decide +kernel
theorem dX5_readsStore_0 : decode cX5_readsStore 0 = .ok (.aload_n 0, 1) := by decide +kernel
theorem dX5_readsStore_1 : decode cX5_readsStore 1 = .ok (.iconst 0, 1) := by decide +kernel
theorem dX5_readsStore_2 : decode cX5_readsStore 2 = .ok (.iconst 4, 1) := by decide +kernel
theorem dX5_readsStore_3 : decode cX5_readsStore 3 = .ok (.bipush 44, 2) := by decide +kernel
theorem dX5_readsStore_5 : decode cX5_readsStore 5 = .ok (.invokevirtual 109, 3) := by decide +kernel
theorem dX5_readsStore_8 : decode cX5_readsStore 8 = .ok (.ifCond .ne 5, 3) := by decide +kernel
theorem dX5_readsStore_11 : decode cX5_readsStore 11 = .ok (.iconst 0, 1) := by decide +kernel
theorem dX5_readsStore_12 : decode cX5_readsStore 12 = .ok (.ireturn, 1) := by decide +kernel
theorem dX5_readsStore_13 : decode cX5_readsStore 13 = .ok (.aload_n 0, 1) := by decide +kernel
theorem dX5_readsStore_14 : decode cX5_readsStore 14 = .ok (.getfield 103, 3) := by decide +kernel
theorem dX5_readsStore_17 : decode cX5_readsStore 17 = .ok (.istore_n 1, 1) := by decide +kernel
theorem dX5_readsStore_18 : decode cX5_readsStore 18 = .ok (.aload_n 0, 1) := by decide +kernel
theorem dX5_readsStore_19 : decode cX5_readsStore 19 = .ok (.iconst 0, 1) := by decide +kernel
theorem dX5_readsStore_20 : decode cX5_readsStore 20 = .ok (.bipush 9, 2) := by decide +kernel
theorem dX5_readsStore_22 : decode cX5_readsStore 22 = .ok (.bipush 59, 2) := by decide +kernel
theorem dX5_readsStore_24 : decode cX5_readsStore 24 = .ok (.invokevirtual 109, 3) := by decide +kernel
theorem dX5_readsStore_27 : decode cX5_readsStore 27 = .ok (.ifCond .ne 5, 3) := by decide +kernel
theorem dX5_readsStore_30 : decode cX5_readsStore 30 = .ok (.iconst 0, 1) := by decide +kernel
theorem dX5_readsStore_31 : decode cX5_readsStore 31 = .ok (.ireturn, 1) := by decide +kernel
theorem dX5_readsStore_32 : decode cX5_readsStore 32 = .ok (.aload_n 0, 1) := by decide +kernel
theorem dX5_readsStore_33 : decode cX5_readsStore 33 = .ok (.getfield 46, 3) := by decide +kernel
theorem dX5_readsStore_36 : decode cX5_readsStore 36 = .ok (.iload_n 1, 1) := by decide +kernel
theorem dX5_readsStore_37 : decode cX5_readsStore 37 = .ok (.aload_n 0, 1) := by decide +kernel
theorem dX5_readsStore_38 : decode cX5_readsStore 38 = .ok (.getfield 103, 3) := by decide +kernel
theorem dX5_readsStore_41 : decode cX5_readsStore 41 = .ok (.iastore, 1) := by decide +kernel
theorem dX5_readsStore_42 : decode cX5_readsStore 42 = .ok (.iconst 1, 1) := by decide +kernel
theorem dX5_readsStore_43 : decode cX5_readsStore 43 = .ok (.ireturn, 1) := by decide +kernel
theorem dX5_readsOn_0 : decode cX5_readsOn 0 = .ok (.aload_n 0, 1) := by decide +kernel
theorem dX5_readsOn_1 : decode cX5_readsOn 1 = .ok (.iconst 0, 1) := by decide +kernel
theorem dX5_readsOn_2 : decode cX5_readsOn 2 = .ok (.aload_n 0, 1) := by decide +kernel
theorem dX5_readsOn_3 : decode cX5_readsOn 3 = .ok (.getfield 106, 3) := by decide +kernel
theorem dX5_readsOn_6 : decode cX5_readsOn 6 = .ok (.iconst 1, 1) := by decide +kernel
theorem dX5_readsOn_7 : decode cX5_readsOn 7 = .ok (.isub, 1) := by decide +kernel
theorem dX5_readsOn_8 : decode cX5_readsOn 8 = .ok (.bipush 44, 2) := by decide +kernel
theorem dX5_readsOn_10 : decode cX5_readsOn 10 = .ok (.invokevirtual 109, 3) := by decide +kernel
theorem dX5_readsOn_13 : decode cX5_readsOn 13 = .ok (.ifCond .ne 5, 3) := by decide +kernel
theorem dX5_readsOn_16 : decode cX5_readsOn 16 = .ok (.iconst 0, 1) := by decide +kernel
theorem dX5_readsOn_17 : decode cX5_readsOn 17 = .ok (.ireturn, 1) := by decide +kernel
theorem dX5_readsOn_18 : decode cX5_readsOn 18 = .ok (.aload_n 0, 1) := by decide +kernel
theorem dX5_readsOn_19 : decode cX5_readsOn 19 = .ok (.getfield 103, 3) := by decide +kernel
theorem dX5_readsOn_22 : decode cX5_readsOn 22 = .ok (.istore_n 1, 1) := by decide +kernel
theorem dX5_readsOn_23 : decode cX5_readsOn 23 = .ok (.aload_n 0, 1) := by decide +kernel
theorem dX5_readsOn_24 : decode cX5_readsOn 24 = .ok (.iconst 0, 1) := by decide +kernel
theorem dX5_readsOn_25 : decode cX5_readsOn 25 = .ok (.iconst 4, 1) := by decide +kernel
theorem dX5_readsOn_26 : decode cX5_readsOn 26 = .ok (.bipush 44, 2) := by decide +kernel
theorem dX5_readsOn_28 : decode cX5_readsOn 28 = .ok (.invokevirtual 109, 3) := by decide +kernel
theorem dX5_readsOn_31 : decode cX5_readsOn 31 = .ok (.ifCond .ne 5, 3) := by decide +kernel
theorem dX5_readsOn_34 : decode cX5_readsOn 34 = .ok (.iconst 0, 1) := by decide +kernel
theorem dX5_readsOn_35 : decode cX5_readsOn 35 = .ok (.ireturn, 1) := by decide +kernel
theorem dX5_readsOn_36 : decode cX5_readsOn 36 = .ok (.aload_n 0, 1) := by decide +kernel
theorem dX5_readsOn_37 : decode cX5_readsOn 37 = .ok (.getfield 103, 3) := by decide +kernel
theorem dX5_readsOn_40 : decode cX5_readsOn 40 = .ok (.istore_n 2, 1) := by decide +kernel
theorem dX5_readsOn_41 : decode cX5_readsOn 41 = .ok (.aload_n 0, 1) := by decide +kernel
theorem dX5_readsOn_42 : decode cX5_readsOn 42 = .ok (.iconst 1, 1) := by decide +kernel
theorem dX5_readsOn_43 : decode cX5_readsOn 43 = .ok (.bipush 20, 2) := by decide +kernel
theorem dX5_readsOn_45 : decode cX5_readsOn 45 = .ok (.bipush 59, 2) := by decide +kernel
theorem dX5_readsOn_47 : decode cX5_readsOn 47 = .ok (.invokevirtual 109, 3) := by decide +kernel
theorem dX5_readsOn_50 : decode cX5_readsOn 50 = .ok (.ifCond .ne 5, 3) := by decide +kernel
theorem dX5_readsOn_53 : decode cX5_readsOn 53 = .ok (.iconst 0, 1) := by decide +kernel
theorem dX5_readsOn_54 : decode cX5_readsOn 54 = .ok (.ireturn, 1) := by decide +kernel
theorem dX5_readsOn_55 : decode cX5_readsOn 55 = .ok (.aload_n 0, 1) := by decide +kernel
theorem dX5_readsOn_56 : decode cX5_readsOn 56 = .ok (.getfield 43, 3) := by decide +kernel
theorem dX5_readsOn_59 : decode cX5_readsOn 59 = .ok (.iconst 5, 1) := by decide +kernel
theorem dX5_readsOn_60 : decode cX5_readsOn 60 = .ok (.iload_n 1, 1) := by decide +kernel
theorem dX5_readsOn_61 : decode cX5_readsOn 61 = .ok (.imul, 1) := by decide +kernel
theorem dX5_readsOn_62 : decode cX5_readsOn 62 = .ok (.iload_n 2, 1) := by decide +kernel
theorem dX5_readsOn_63 : decode cX5_readsOn 63 = .ok (.iadd, 1) := by decide +kernel
theorem dX5_readsOn_64 : decode cX5_readsOn 64 = .ok (.aload_n 0, 1) := by decide +kernel
theorem dX5_readsOn_65 : decode cX5_readsOn 65 = .ok (.getfield 103, 3) := by decide +kernel
theorem dX5_readsOn_68 : decode cX5_readsOn 68 = .ok (.iastore, 1) := by decide +kernel
theorem dX5_readsOn_69 : decode cX5_readsOn 69 = .ok (.iconst 1, 1) := by decide +kernel
theorem dX5_readsOn_70 : decode cX5_readsOn 70 = .ok (.ireturn, 1) := by decide +kernel
theorem dX5_readsWind_0 : decode cX5_readsWind 0 = .ok (.aload_n 0, 1) := by decide +kernel
theorem dX5_readsWind_1 : decode cX5_readsWind 1 = .ok (.getfield 112, 3) := by decide +kernel
theorem dX5_readsWind_4 : decode cX5_readsWind 4 = .ok (.bipush 12, 2) := by decide +kernel
theorem dX5_readsWind_6 : decode cX5_readsWind 6 = .ok (.if_icmp .eq 15, 3) := by decide +kernel
theorem dX5_readsWind_9 : decode cX5_readsWind 9 = .ok (.aload_n 0, 1) := by decide +kernel
theorem dX5_readsWind_10 : decode cX5_readsWind 10 = .ok (.iconst 0, 1) := by decide +kernel
theorem dX5_readsWind_11 : decode cX5_readsWind 11 = .ok (.bipush 20, 2) := by decide +kernel
theorem dX5_readsWind_13 : decode cX5_readsWind 13 = .ok (.bipush 59, 2) := by decide +kernel
theorem dX5_readsWind_15 : decode cX5_readsWind 15 = .ok (.invokevirtual 109, 3) := by decide +kernel
theorem dX5_readsWind_18 : decode cX5_readsWind 18 = .ok (.ifCond .ne 5, 3) := by decide +kernel
theorem dX5_readsWind_21 : decode cX5_readsWind 21 = .ok (.iconst 0, 1) := by decide +kernel
theorem dX5_readsWind_22 : decode cX5_readsWind 22 = .ok (.ireturn, 1) := by decide +kernel
theorem dX5_readsWind_23 : decode cX5_readsWind 23 = .ok (.aload_n 0, 1) := by decide +kernel
theorem dX5_readsWind_24 : decode cX5_readsWind 24 = .ok (.getfield 49, 3) := by decide +kernel
theorem dX5_readsWind_27 : decode cX5_readsWind 27 = .ok (.aload_n 0, 1) := by decide +kernel
theorem dX5_readsWind_28 : decode cX5_readsWind 28 = .ok (.getfield 112, 3) := by decide +kernel
theorem dX5_readsWind_31 : decode cX5_readsWind 31 = .ok (.aload_n 0, 1) := by decide +kernel
theorem dX5_readsWind_32 : decode cX5_readsWind 32 = .ok (.getfield 103, 3) := by decide +kernel
theorem dX5_readsWind_35 : decode cX5_readsWind 35 = .ok (.iastore, 1) := by decide +kernel
theorem dX5_readsWind_36 : decode cX5_readsWind 36 = .ok (.aload_n 0, 1) := by decide +kernel
theorem dX5_readsWind_37 : decode cX5_readsWind 37 = .ok (.dup, 1) := by decide +kernel
theorem dX5_readsWind_38 : decode cX5_readsWind 38 = .ok (.getfield 112, 3) := by decide +kernel
theorem dX5_readsWind_41 : decode cX5_readsWind 41 = .ok (.iconst 1, 1) := by decide +kernel
theorem dX5_readsWind_42 : decode cX5_readsWind 42 = .ok (.iadd, 1) := by decide +kernel
theorem dX5_readsWind_43 : decode cX5_readsWind 43 = .ok (.putfield 112, 3) := by decide +kernel
theorem dX5_readsWind_46 : decode cX5_readsWind 46 = .ok (.iconst 1, 1) := by decide +kernel
theorem dX5_readsWind_47 : decode cX5_readsWind 47 = .ok (.ireturn, 1) := by decide +kernel
theorem dX5_readsItem_0 : decode cX5_readsItem 0 = .ok (.aload_n 0, 1) := by decide +kernel
theorem dX5_readsItem_1 : decode cX5_readsItem 1 = .ok (.invokevirtual 95, 3) := by decide +kernel
theorem dX5_readsItem_4 : decode cX5_readsItem 4 = .ok (.istore_n 1, 1) := by decide +kernel
theorem dX5_readsItem_5 : decode cX5_readsItem 5 = .ok (.aload_n 0, 1) := by decide +kernel
theorem dX5_readsItem_6 : decode cX5_readsItem 6 = .ok (.dup, 1) := by decide +kernel
theorem dX5_readsItem_7 : decode cX5_readsItem 7 = .ok (.getfield 92, 3) := by decide +kernel
theorem dX5_readsItem_10 : decode cX5_readsItem 10 = .ok (.iconst 1, 1) := by decide +kernel
theorem dX5_readsItem_11 : decode cX5_readsItem 11 = .ok (.iadd, 1) := by decide +kernel
theorem dX5_readsItem_12 : decode cX5_readsItem 12 = .ok (.putfield 92, 3) := by decide +kernel
theorem dX5_readsItem_15 : decode cX5_readsItem 15 = .ok (.iload_n 1, 1) := by decide +kernel
theorem dX5_readsItem_16 : decode cX5_readsItem 16 = .ok (.bipush 112, 2) := by decide +kernel
theorem dX5_readsItem_18 : decode cX5_readsItem 18 = .ok (.if_icmp .ne 10, 3) := by decide +kernel
theorem dX5_readsItem_21 : decode cX5_readsItem 21 = .ok (.aload_n 0, 1) := by decide +kernel
theorem dX5_readsItem_22 : decode cX5_readsItem 22 = .ok (.invokevirtual 115, 3) := by decide +kernel
theorem dX5_readsItem_25 : decode cX5_readsItem 25 = .ok (.goto 47, 3) := by decide +kernel
theorem dX5_readsItem_28 : decode cX5_readsItem 28 = .ok (.iload_n 1, 1) := by decide +kernel
theorem dX5_readsItem_29 : decode cX5_readsItem 29 = .ok (.bipush 115, 2) := by decide +kernel
theorem dX5_readsItem_31 : decode cX5_readsItem 31 = .ok (.if_icmp .ne 10, 3) := by decide +kernel
theorem dX5_readsItem_34 : decode cX5_readsItem 34 = .ok (.aload_n 0, 1) := by decide +kernel
theorem dX5_readsItem_35 : decode cX5_readsItem 35 = .ok (.invokevirtual 118, 3) := by decide +kernel
theorem dX5_readsItem_38 : decode cX5_readsItem 38 = .ok (.goto 34, 3) := by decide +kernel
theorem dX5_readsItem_41 : decode cX5_readsItem 41 = .ok (.iload_n 1, 1) := by decide +kernel
theorem dX5_readsItem_42 : decode cX5_readsItem 42 = .ok (.bipush 111, 2) := by decide +kernel
theorem dX5_readsItem_44 : decode cX5_readsItem 44 = .ok (.if_icmp .ne 10, 3) := by decide +kernel
theorem dX5_readsItem_47 : decode cX5_readsItem 47 = .ok (.aload_n 0, 1) := by decide +kernel
theorem dX5_readsItem_48 : decode cX5_readsItem 48 = .ok (.invokevirtual 121, 3) := by decide +kernel
theorem dX5_readsItem_51 : decode cX5_readsItem 51 = .ok (.goto 21, 3) := by decide +kernel
theorem dX5_readsItem_54 : decode cX5_readsItem 54 = .ok (.iload_n 1, 1) := by decide +kernel
theorem dX5_readsItem_55 : decode cX5_readsItem 55 = .ok (.bipush 119, 2) := by decide +kernel
theorem dX5_readsItem_57 : decode cX5_readsItem 57 = .ok (.if_icmp .ne 14, 3) := by decide +kernel
theorem dX5_readsItem_60 : decode cX5_readsItem 60 = .ok (.aload_n 0, 1) := by decide +kernel
theorem dX5_readsItem_61 : decode cX5_readsItem 61 = .ok (.invokevirtual 124, 3) := by decide +kernel
theorem dX5_readsItem_64 : decode cX5_readsItem 64 = .ok (.ifCond .eq 7, 3) := by decide +kernel
theorem dX5_readsItem_67 : decode cX5_readsItem 67 = .ok (.iconst 1, 1) := by decide +kernel
theorem dX5_readsItem_68 : decode cX5_readsItem 68 = .ok (.goto 4, 3) := by decide +kernel
theorem dX5_readsItem_71 : decode cX5_readsItem 71 = .ok (.iconst 0, 1) := by decide +kernel
theorem dX5_readsItem_72 : decode cX5_readsItem 72 = .ok (.ireturn, 1) := by decide +kernel
theorem dX5_fault_0 : decode cX5_fault 0 = .ok (.aload_n 0, 1) := by decide +kernel
theorem dX5_fault_1 : decode cX5_fault 1 = .ok (.iconst 0, 1) := by decide +kernel
theorem dX5_fault_2 : decode cX5_fault 2 = .ok (.putfield 92, 3) := by decide +kernel
theorem dX5_fault_5 : decode cX5_fault 5 = .ok (.aload_n 0, 1) := by decide +kernel
theorem dX5_fault_6 : decode cX5_fault 6 = .ok (.iconst 0, 1) := by decide +kernel
theorem dX5_fault_7 : decode cX5_fault 7 = .ok (.putfield 106, 3) := by decide +kernel
theorem dX5_fault_10 : decode cX5_fault 10 = .ok (.aload_n 0, 1) := by decide +kernel
theorem dX5_fault_11 : decode cX5_fault 11 = .ok (.iconst 0, 1) := by decide +kernel
theorem dX5_fault_12 : decode cX5_fault 12 = .ok (.putfield 112, 3) := by decide +kernel
theorem dX5_fault_15 : decode cX5_fault 15 = .ok (.iconst 0, 1) := by decide +kernel
theorem dX5_fault_16 : decode cX5_fault 16 = .ok (.istore_n 1, 1) := by decide +kernel
theorem dX5_fault_17 : decode cX5_fault 17 = .ok (.iload_n 1, 1) := by decide +kernel
theorem dX5_fault_18 : decode cX5_fault 18 = .ok (.bipush 30, 2) := by decide +kernel
theorem dX5_fault_20 : decode cX5_fault 20 = .ok (.if_icmp .ge 16, 3) := by decide +kernel
theorem dX5_fault_23 : decode cX5_fault 23 = .ok (.aload_n 0, 1) := by decide +kernel
theorem dX5_fault_24 : decode cX5_fault 24 = .ok (.getfield 43, 3) := by decide +kernel
theorem dX5_fault_27 : decode cX5_fault 27 = .ok (.iload_n 1, 1) := by decide +kernel
theorem dX5_fault_28 : decode cX5_fault 28 = .ok (.iconst 0, 1) := by decide +kernel
theorem dX5_fault_29 : decode cX5_fault 29 = .ok (.iastore, 1) := by decide +kernel
theorem dX5_fault_30 : decode cX5_fault 30 = .ok (.iinc 1 1, 3) := by decide +kernel
theorem dX5_fault_33 : decode cX5_fault 33 = .ok (.goto (-16), 3) := by decide +kernel
theorem dX5_fault_36 : decode cX5_fault 36 = .ok (.iconst 0, 1) := by decide +kernel
theorem dX5_fault_37 : decode cX5_fault 37 = .ok (.istore_n 1, 1) := by decide +kernel
theorem dX5_fault_38 : decode cX5_fault 38 = .ok (.iload_n 1, 1) := by decide +kernel
theorem dX5_fault_39 : decode cX5_fault 39 = .ok (.iconst 5, 1) := by decide +kernel
theorem dX5_fault_40 : decode cX5_fault 40 = .ok (.if_icmp .ge 16, 3) := by decide +kernel
theorem dX5_fault_43 : decode cX5_fault 43 = .ok (.aload_n 0, 1) := by decide +kernel
theorem dX5_fault_44 : decode cX5_fault 44 = .ok (.getfield 46, 3) := by decide +kernel
theorem dX5_fault_47 : decode cX5_fault 47 = .ok (.iload_n 1, 1) := by decide +kernel
theorem dX5_fault_48 : decode cX5_fault 48 = .ok (.iconst 2, 1) := by decide +kernel
theorem dX5_fault_49 : decode cX5_fault 49 = .ok (.iastore, 1) := by decide +kernel
theorem dX5_fault_50 : decode cX5_fault 50 = .ok (.iinc 1 1, 3) := by decide +kernel
theorem dX5_fault_53 : decode cX5_fault 53 = .ok (.goto (-15), 3) := by decide +kernel
theorem dX5_fault_56 : decode cX5_fault 56 = .ok (.aload_n 0, 1) := by decide +kernel
theorem dX5_fault_57 : decode cX5_fault 57 = .ok (.getfield 92, 3) := by decide +kernel
theorem dX5_fault_60 : decode cX5_fault 60 = .ok (.aload_n 0, 1) := by decide +kernel
theorem dX5_fault_61 : decode cX5_fault 61 = .ok (.getfield 89, 3) := by decide +kernel
theorem dX5_fault_64 : decode cX5_fault 64 = .ok (.if_icmp .ge 20, 3) := by decide +kernel
theorem dX5_fault_67 : decode cX5_fault 67 = .ok (.aload_n 0, 1) := by decide +kernel
theorem dX5_fault_68 : decode cX5_fault 68 = .ok (.getfield 92, 3) := by decide +kernel
theorem dX5_fault_71 : decode cX5_fault 71 = .ok (.istore_n 1, 1) := by decide +kernel
theorem dX5_fault_72 : decode cX5_fault 72 = .ok (.aload_n 0, 1) := by decide +kernel
theorem dX5_fault_73 : decode cX5_fault 73 = .ok (.invokevirtual 127, 3) := by decide +kernel
theorem dX5_fault_76 : decode cX5_fault 76 = .ok (.ifCond .ne 5, 3) := by decide +kernel
theorem dX5_fault_79 : decode cX5_fault 79 = .ok (.iload_n 1, 1) := by decide +kernel
theorem dX5_fault_80 : decode cX5_fault 80 = .ok (.ireturn, 1) := by decide +kernel
theorem dX5_fault_81 : decode cX5_fault 81 = .ok (.goto (-25), 3) := by decide +kernel
theorem dX5_fault_84 : decode cX5_fault 84 = .ok (.bipush (-4), 2) := by decide +kernel
theorem dX5_fault_86 : decode cX5_fault 86 = .ok (.ireturn, 1) := by decide +kernel
theorem dX5_lay_0 : decode cX5_lay 0 = .ok (.aload_n 0, 1) := by decide +kernel
theorem dX5_lay_1 : decode cX5_lay 1 = .ok (.invokevirtual 130, 3) := by decide +kernel
theorem dX5_lay_4 : decode cX5_lay 4 = .ok (.bipush (-4), 2) := by decide +kernel
theorem dX5_lay_6 : decode cX5_lay 6 = .ok (.if_icmp .ne 10, 3) := by decide +kernel
theorem dX5_lay_9 : decode cX5_lay 9 = .ok (.aload_n 0, 1) := by decide +kernel
theorem dX5_lay_10 : decode cX5_lay 10 = .ok (.getfield 106, 3) := by decide +kernel
theorem dX5_lay_13 : decode cX5_lay 13 = .ok (.ifCond .ne 6, 3) := by decide +kernel
theorem dX5_lay_16 : decode cX5_lay 16 = .ok (.bipush (-2), 2) := by decide +kernel
theorem dX5_lay_18 : decode cX5_lay 18 = .ok (.ireturn, 1) := by decide +kernel
theorem dX5_lay_19 : decode cX5_lay 19 = .ok (.aload_n 0, 1) := by decide +kernel
theorem dX5_lay_20 : decode cX5_lay 20 = .ok (.aload_n 0, 1) := by decide +kernel
theorem dX5_lay_21 : decode cX5_lay 21 = .ok (.getfield 106, 3) := by decide +kernel
theorem dX5_lay_24 : decode cX5_lay 24 = .ok (.putfield 78, 3) := by decide +kernel
theorem dX5_lay_27 : decode cX5_lay 27 = .ok (.aload_n 0, 1) := by decide +kernel
theorem dX5_lay_28 : decode cX5_lay 28 = .ok (.aload_n 0, 1) := by decide +kernel
theorem dX5_lay_29 : decode cX5_lay 29 = .ok (.getfield 112, 3) := by decide +kernel
theorem dX5_lay_32 : decode cX5_lay 32 = .ok (.putfield 71, 3) := by decide +kernel
theorem dX5_lay_35 : decode cX5_lay 35 = .ok (.iconst 0, 1) := by decide +kernel
theorem dX5_lay_36 : decode cX5_lay 36 = .ok (.istore_n 1, 1) := by decide +kernel
theorem dX5_lay_37 : decode cX5_lay 37 = .ok (.iload_n 1, 1) := by decide +kernel
theorem dX5_lay_38 : decode cX5_lay 38 = .ok (.bipush 6, 2) := by decide +kernel
theorem dX5_lay_40 : decode cX5_lay 40 = .ok (.if_icmp .ge 33, 3) := by decide +kernel
theorem dX5_lay_43 : decode cX5_lay 43 = .ok (.aload_n 0, 1) := by decide +kernel
theorem dX5_lay_44 : decode cX5_lay 44 = .ok (.getfield 9, 3) := by decide +kernel
theorem dX5_lay_47 : decode cX5_lay 47 = .ok (.iload_n 1, 1) := by decide +kernel
theorem dX5_lay_48 : decode cX5_lay 48 = .ok (.aload_n 0, 1) := by decide +kernel
theorem dX5_lay_49 : decode cX5_lay 49 = .ok (.getfield 37, 3) := by decide +kernel
theorem dX5_lay_52 : decode cX5_lay 52 = .ok (.iload_n 1, 1) := by decide +kernel
theorem dX5_lay_53 : decode cX5_lay 53 = .ok (.iaload, 1) := by decide +kernel
theorem dX5_lay_54 : decode cX5_lay 54 = .ok (.iastore, 1) := by decide +kernel
theorem dX5_lay_55 : decode cX5_lay 55 = .ok (.aload_n 0, 1) := by decide +kernel
theorem dX5_lay_56 : decode cX5_lay 56 = .ok (.getfield 13, 3) := by decide +kernel
theorem dX5_lay_59 : decode cX5_lay 59 = .ok (.iload_n 1, 1) := by decide +kernel
theorem dX5_lay_60 : decode cX5_lay 60 = .ok (.aload_n 0, 1) := by decide +kernel
theorem dX5_lay_61 : decode cX5_lay 61 = .ok (.getfield 40, 3) := by decide +kernel
theorem dX5_lay_64 : decode cX5_lay 64 = .ok (.iload_n 1, 1) := by decide +kernel
theorem dX5_lay_65 : decode cX5_lay 65 = .ok (.iaload, 1) := by decide +kernel
theorem dX5_lay_66 : decode cX5_lay 66 = .ok (.iastore, 1) := by decide +kernel
theorem dX5_lay_67 : decode cX5_lay 67 = .ok (.iinc 1 1, 3) := by decide +kernel
theorem dX5_lay_70 : decode cX5_lay 70 = .ok (.goto (-33), 3) := by decide +kernel
theorem dX5_lay_73 : decode cX5_lay 73 = .ok (.iconst 0, 1) := by decide +kernel
theorem dX5_lay_74 : decode cX5_lay 74 = .ok (.istore_n 1, 1) := by decide +kernel
theorem dX5_lay_75 : decode cX5_lay 75 = .ok (.iload_n 1, 1) := by decide +kernel
theorem dX5_lay_76 : decode cX5_lay 76 = .ok (.bipush 30, 2) := by decide +kernel
theorem dX5_lay_78 : decode cX5_lay 78 = .ok (.if_icmp .ge 21, 3) := by decide +kernel
theorem dX5_lay_81 : decode cX5_lay 81 = .ok (.aload_n 0, 1) := by decide +kernel
theorem dX5_lay_82 : decode cX5_lay 82 = .ok (.getfield 19, 3) := by decide +kernel
theorem dX5_lay_85 : decode cX5_lay 85 = .ok (.iload_n 1, 1) := by decide +kernel
theorem dX5_lay_86 : decode cX5_lay 86 = .ok (.aload_n 0, 1) := by decide +kernel
theorem dX5_lay_87 : decode cX5_lay 87 = .ok (.getfield 43, 3) := by decide +kernel
theorem dX5_lay_90 : decode cX5_lay 90 = .ok (.iload_n 1, 1) := by decide +kernel
theorem dX5_lay_91 : decode cX5_lay 91 = .ok (.iaload, 1) := by decide +kernel
theorem dX5_lay_92 : decode cX5_lay 92 = .ok (.iastore, 1) := by decide +kernel
theorem dX5_lay_93 : decode cX5_lay 93 = .ok (.iinc 1 1, 3) := by decide +kernel
theorem dX5_lay_96 : decode cX5_lay 96 = .ok (.goto (-21), 3) := by decide +kernel
theorem dX5_lay_99 : decode cX5_lay 99 = .ok (.iconst 0, 1) := by decide +kernel
theorem dX5_lay_100 : decode cX5_lay 100 = .ok (.istore_n 1, 1) := by decide +kernel
theorem dX5_lay_101 : decode cX5_lay 101 = .ok (.iload_n 1, 1) := by decide +kernel
theorem dX5_lay_102 : decode cX5_lay 102 = .ok (.iconst 5, 1) := by decide +kernel
theorem dX5_lay_103 : decode cX5_lay 103 = .ok (.if_icmp .ge 21, 3) := by decide +kernel
theorem dX5_lay_106 : decode cX5_lay 106 = .ok (.aload_n 0, 1) := by decide +kernel
theorem dX5_lay_107 : decode cX5_lay 107 = .ok (.getfield 22, 3) := by decide +kernel
theorem dX5_lay_110 : decode cX5_lay 110 = .ok (.iload_n 1, 1) := by decide +kernel
theorem dX5_lay_111 : decode cX5_lay 111 = .ok (.aload_n 0, 1) := by decide +kernel
theorem dX5_lay_112 : decode cX5_lay 112 = .ok (.getfield 46, 3) := by decide +kernel
theorem dX5_lay_115 : decode cX5_lay 115 = .ok (.iload_n 1, 1) := by decide +kernel
theorem dX5_lay_116 : decode cX5_lay 116 = .ok (.iaload, 1) := by decide +kernel
theorem dX5_lay_117 : decode cX5_lay 117 = .ok (.iastore, 1) := by decide +kernel
theorem dX5_lay_118 : decode cX5_lay 118 = .ok (.iinc 1 1, 3) := by decide +kernel
theorem dX5_lay_121 : decode cX5_lay 121 = .ok (.goto (-20), 3) := by decide +kernel
theorem dX5_lay_124 : decode cX5_lay 124 = .ok (.iconst 0, 1) := by decide +kernel
theorem dX5_lay_125 : decode cX5_lay 125 = .ok (.istore_n 1, 1) := by decide +kernel
theorem dX5_lay_126 : decode cX5_lay 126 = .ok (.iload_n 1, 1) := by decide +kernel
theorem dX5_lay_127 : decode cX5_lay 127 = .ok (.bipush 12, 2) := by decide +kernel
theorem dX5_lay_129 : decode cX5_lay 129 = .ok (.if_icmp .ge 21, 3) := by decide +kernel
theorem dX5_lay_132 : decode cX5_lay 132 = .ok (.aload_n 0, 1) := by decide +kernel
theorem dX5_lay_133 : decode cX5_lay 133 = .ok (.getfield 16, 3) := by decide +kernel
theorem dX5_lay_136 : decode cX5_lay 136 = .ok (.iload_n 1, 1) := by decide +kernel
theorem dX5_lay_137 : decode cX5_lay 137 = .ok (.aload_n 0, 1) := by decide +kernel
theorem dX5_lay_138 : decode cX5_lay 138 = .ok (.getfield 49, 3) := by decide +kernel
theorem dX5_lay_141 : decode cX5_lay 141 = .ok (.iload_n 1, 1) := by decide +kernel
theorem dX5_lay_142 : decode cX5_lay 142 = .ok (.iaload, 1) := by decide +kernel
theorem dX5_lay_143 : decode cX5_lay 143 = .ok (.iastore, 1) := by decide +kernel
theorem dX5_lay_144 : decode cX5_lay 144 = .ok (.iinc 1 1, 3) := by decide +kernel
theorem dX5_lay_147 : decode cX5_lay 147 = .ok (.goto (-21), 3) := by decide +kernel
theorem dX5_lay_150 : decode cX5_lay 150 = .ok (.aload_n 0, 1) := by decide +kernel
theorem dX5_lay_151 : decode cX5_lay 151 = .ok (.invokevirtual 75, 3) := by decide +kernel
theorem dX5_lay_154 : decode cX5_lay 154 = .ok (.aload_n 0, 1) := by decide +kernel
theorem dX5_lay_155 : decode cX5_lay 155 = .ok (.iconst 0, 1) := by decide +kernel
theorem dX5_lay_156 : decode cX5_lay 156 = .ok (.putfield 133, 3) := by decide +kernel
theorem dX5_lay_159 : decode cX5_lay 159 = .ok (.aload_n 0, 1) := by decide +kernel
theorem dX5_lay_160 : decode cX5_lay 160 = .ok (.iconst 0, 1) := by decide +kernel
theorem dX5_lay_161 : decode cX5_lay 161 = .ok (.putfield 136, 3) := by decide +kernel
theorem dX5_lay_164 : decode cX5_lay 164 = .ok (.aload_n 0, 1) := by decide +kernel
theorem dX5_lay_165 : decode cX5_lay 165 = .ok (.iconst 0, 1) := by decide +kernel
theorem dX5_lay_166 : decode cX5_lay 166 = .ok (.putfield 139, 3) := by decide +kernel
theorem dX5_lay_169 : decode cX5_lay 169 = .ok (.aload_n 0, 1) := by decide +kernel
theorem dX5_lay_170 : decode cX5_lay 170 = .ok (.iconst 0, 1) := by decide +kernel
theorem dX5_lay_171 : decode cX5_lay 171 = .ok (.putfield 142, 3) := by decide +kernel
theorem dX5_lay_174 : decode cX5_lay 174 = .ok (.aload_n 0, 1) := by decide +kernel
theorem dX5_lay_175 : decode cX5_lay 175 = .ok (.getfield 78, 3) := by decide +kernel
theorem dX5_lay_178 : decode cX5_lay 178 = .ok (.ireturn, 1) := by decide +kernel
theorem dX5_windOf_0 : decode cX5_windOf 0 = .ok (.aload_n 0, 1) := by decide +kernel
theorem dX5_windOf_1 : decode cX5_windOf 1 = .ok (.getfield 71, 3) := by decide +kernel
theorem dX5_windOf_4 : decode cX5_windOf 4 = .ok (.ifCond .ne 7, 3) := by decide +kernel
theorem dX5_windOf_7 : decode cX5_windOf 7 = .ok (.iconst 3, 1) := by decide +kernel
theorem dX5_windOf_8 : decode cX5_windOf 8 = .ok (.goto 14, 3) := by decide +kernel
theorem dX5_windOf_11 : decode cX5_windOf 11 = .ok (.aload_n 0, 1) := by decide +kernel
theorem dX5_windOf_12 : decode cX5_windOf 12 = .ok (.getfield 16, 3) := by decide +kernel
theorem dX5_windOf_15 : decode cX5_windOf 15 = .ok (.iload_n 1, 1) := by decide +kernel
theorem dX5_windOf_16 : decode cX5_windOf 16 = .ok (.aload_n 0, 1) := by decide +kernel
theorem dX5_windOf_17 : decode cX5_windOf 17 = .ok (.getfield 71, 3) := by decide +kernel
theorem dX5_windOf_20 : decode cX5_windOf 20 = .ok (.irem, 1) := by decide +kernel
theorem dX5_windOf_21 : decode cX5_windOf 21 = .ok (.iaload, 1) := by decide +kernel
theorem dX5_windOf_22 : decode cX5_windOf 22 = .ok (.ireturn, 1) := by decide +kernel
theorem dX5_forceBy_0 : decode cX5_forceBy 0 = .ok (.aload_n 0, 1) := by decide +kernel
theorem dX5_forceBy_1 : decode cX5_forceBy 1 = .ok (.getfield 9, 3) := by decide +kernel
theorem dX5_forceBy_4 : decode cX5_forceBy 4 = .ok (.iload_n 1, 1) := by decide +kernel
theorem dX5_forceBy_5 : decode cX5_forceBy 5 = .ok (.iaload, 1) := by decide +kernel
theorem dX5_forceBy_6 : decode cX5_forceBy 6 = .ok (.iconst 1, 1) := by decide +kernel
theorem dX5_forceBy_7 : decode cX5_forceBy 7 = .ok (.if_icmp .ne 9, 3) := by decide +kernel
theorem dX5_forceBy_10 : decode cX5_forceBy 10 = .ok (.iload_n 2, 1) := by decide +kernel
theorem dX5_forceBy_11 : decode cX5_forceBy 11 = .ok (.iconst 2, 1) := by decide +kernel
theorem dX5_forceBy_12 : decode cX5_forceBy 12 = .ok (.iadd, 1) := by decide +kernel
theorem dX5_forceBy_13 : decode cX5_forceBy 13 = .ok (.goto 24, 3) := by decide +kernel
theorem dX5_forceBy_16 : decode cX5_forceBy 16 = .ok (.aload_n 0, 1) := by decide +kernel
theorem dX5_forceBy_17 : decode cX5_forceBy 17 = .ok (.getfield 9, 3) := by decide +kernel
theorem dX5_forceBy_20 : decode cX5_forceBy 20 = .ok (.iload_n 1, 1) := by decide +kernel
theorem dX5_forceBy_21 : decode cX5_forceBy 21 = .ok (.iaload, 1) := by decide +kernel
theorem dX5_forceBy_22 : decode cX5_forceBy 22 = .ok (.iconst 2, 1) := by decide +kernel
theorem dX5_forceBy_23 : decode cX5_forceBy 23 = .ok (.if_icmp .ne 13, 3) := by decide +kernel
theorem dX5_forceBy_26 : decode cX5_forceBy 26 = .ok (.iconst 0, 1) := by decide +kernel
theorem dX5_forceBy_27 : decode cX5_forceBy 27 = .ok (.iload_n 2, 1) := by decide +kernel
theorem dX5_forceBy_28 : decode cX5_forceBy 28 = .ok (.iconst 2, 1) := by decide +kernel
theorem dX5_forceBy_29 : decode cX5_forceBy 29 = .ok (.isub, 1) := by decide +kernel
theorem dX5_forceBy_30 : decode cX5_forceBy 30 = .ok (.invokestatic 145, 3) := by decide +kernel
theorem dX5_forceBy_33 : decode cX5_forceBy 33 = .ok (.goto 4, 3) := by decide +kernel
theorem dX5_forceBy_36 : decode cX5_forceBy 36 = .ok (.iload_n 2, 1) := by decide +kernel
theorem dX5_forceBy_37 : decode cX5_forceBy 37 = .ok (.ireturn, 1) := by decide +kernel
theorem dX5_light_0 : decode cX5_light 0 = .ok (.bipush 12, 2) := by decide +kernel
theorem dX5_light_2 : decode cX5_light 2 = .ok (.istore_n 2, 1) := by decide +kernel
theorem dX5_light_3 : decode cX5_light 3 = .ok (.iconst 0, 1) := by decide +kernel
theorem dX5_light_4 : decode cX5_light 4 = .ok (.istore_n 3, 1) := by decide +kernel
theorem dX5_light_5 : decode cX5_light 5 = .ok (.iload_n 3, 1) := by decide +kernel
theorem dX5_light_6 : decode cX5_light 6 = .ok (.aload_n 0, 1) := by decide +kernel
theorem dX5_light_7 : decode cX5_light 7 = .ok (.getfield 78, 3) := by decide +kernel
theorem dX5_light_10 : decode cX5_light 10 = .ok (.if_icmp .ge 70, 3) := by decide +kernel
theorem dX5_light_13 : decode cX5_light 13 = .ok (.iload_n 3, 1) := by decide +kernel
theorem dX5_light_14 : decode cX5_light 14 = .ok (.iload_n 1, 1) := by decide +kernel
theorem dX5_light_15 : decode cX5_light 15 = .ok (.iconst 1, 1) := by decide +kernel
theorem dX5_light_16 : decode cX5_light 16 = .ok (.isub, 1) := by decide +kernel
theorem dX5_light_17 : decode cX5_light 17 = .ok (.if_icmp .eq 10, 3) := by decide +kernel
theorem dX5_light_20 : decode cX5_light 20 = .ok (.iload_n 3, 1) := by decide +kernel
theorem dX5_light_21 : decode cX5_light 21 = .ok (.iload_n 1, 1) := by decide +kernel
theorem dX5_light_22 : decode cX5_light 22 = .ok (.iconst 1, 1) := by decide +kernel
theorem dX5_light_23 : decode cX5_light 23 = .ok (.iadd, 1) := by decide +kernel
theorem dX5_light_24 : decode cX5_light 24 = .ok (.if_icmp .ne 7, 3) := by decide +kernel
theorem dX5_light_27 : decode cX5_light 27 = .ok (.iconst 1, 1) := by decide +kernel
theorem dX5_light_28 : decode cX5_light 28 = .ok (.goto 4, 3) := by decide +kernel
theorem dX5_light_31 : decode cX5_light 31 = .ok (.iconst 0, 1) := by decide +kernel
theorem dX5_light_32 : decode cX5_light 32 = .ok (.istore 4, 2) := by decide +kernel
theorem dX5_light_34 : decode cX5_light 34 = .ok (.iload_n 2, 1) := by decide +kernel
theorem dX5_light_35 : decode cX5_light 35 = .ok (.iload 4, 2) := by decide +kernel
theorem dX5_light_37 : decode cX5_light 37 = .ok (.ifCond .eq 34, 3) := by decide +kernel
theorem dX5_light_40 : decode cX5_light 40 = .ok (.aload_n 0, 1) := by decide +kernel
theorem dX5_light_41 : decode cX5_light 41 = .ok (.getfield 13, 3) := by decide +kernel
theorem dX5_light_44 : decode cX5_light 44 = .ok (.iload_n 3, 1) := by decide +kernel
theorem dX5_light_45 : decode cX5_light 45 = .ok (.iaload, 1) := by decide +kernel
theorem dX5_light_46 : decode cX5_light 46 = .ok (.aload_n 0, 1) := by decide +kernel
theorem dX5_light_47 : decode cX5_light 47 = .ok (.getfield 13, 3) := by decide +kernel
theorem dX5_light_50 : decode cX5_light 50 = .ok (.iload_n 1, 1) := by decide +kernel
theorem dX5_light_51 : decode cX5_light 51 = .ok (.iaload, 1) := by decide +kernel
theorem dX5_light_52 : decode cX5_light 52 = .ok (.if_icmp .le 19, 3) := by decide +kernel
theorem dX5_light_55 : decode cX5_light 55 = .ok (.aload_n 0, 1) := by decide +kernel
theorem dX5_light_56 : decode cX5_light 56 = .ok (.iload_n 3, 1) := by decide +kernel
theorem dX5_light_57 : decode cX5_light 57 = .ok (.invokevirtual 85, 3) := by decide +kernel
theorem dX5_light_60 : decode cX5_light 60 = .ok (.iconst 3, 1) := by decide +kernel
theorem dX5_light_61 : decode cX5_light 61 = .ok (.invokestatic 149, 3) := by decide +kernel
theorem dX5_light_64 : decode cX5_light 64 = .ok (.ifCond .eq 7, 3) := by decide +kernel
theorem dX5_light_67 : decode cX5_light 67 = .ok (.iconst 3, 1) := by decide +kernel
theorem dX5_light_68 : decode cX5_light 68 = .ok (.goto 4, 3) := by decide +kernel
theorem dX5_light_71 : decode cX5_light 71 = .ok (.iconst 0, 1) := by decide +kernel
theorem dX5_light_72 : decode cX5_light 72 = .ok (.isub, 1) := by decide +kernel
theorem dX5_light_73 : decode cX5_light 73 = .ok (.istore_n 2, 1) := by decide +kernel
theorem dX5_light_74 : decode cX5_light 74 = .ok (.iinc 3 1, 3) := by decide +kernel
theorem dX5_light_77 : decode cX5_light 77 = .ok (.goto (-72), 3) := by decide +kernel
theorem dX5_light_80 : decode cX5_light 80 = .ok (.iload_n 2, 1) := by decide +kernel
theorem dX5_light_81 : decode cX5_light 81 = .ok (.ireturn, 1) := by decide +kernel
theorem dX5_passesBy_0 : decode cX5_passesBy 0 = .ok (.aload_n 0, 1) := by decide +kernel
theorem dX5_passesBy_1 : decode cX5_passesBy 1 = .ok (.invokevirtual 75, 3) := by decide +kernel
theorem dX5_passesBy_4 : decode cX5_passesBy 4 = .ok (.iconst 0, 1) := by decide +kernel
theorem dX5_passesBy_5 : decode cX5_passesBy 5 = .ok (.istore_n 2, 1) := by decide +kernel
theorem dX5_passesBy_6 : decode cX5_passesBy 6 = .ok (.iload_n 2, 1) := by decide +kernel
theorem dX5_passesBy_7 : decode cX5_passesBy 7 = .ok (.aload_n 0, 1) := by decide +kernel
theorem dX5_passesBy_8 : decode cX5_passesBy 8 = .ok (.getfield 78, 3) := by decide +kernel
theorem dX5_passesBy_11 : decode cX5_passesBy 11 = .ok (.if_icmp .ge 134, 3) := by decide +kernel
theorem dX5_passesBy_14 : decode cX5_passesBy 14 = .ok (.aload_n 0, 1) := by decide +kernel
theorem dX5_passesBy_15 : decode cX5_passesBy 15 = .ok (.iload_n 2, 1) := by decide +kernel
theorem dX5_passesBy_16 : decode cX5_passesBy 16 = .ok (.iload_n 1, 1) := by decide +kernel
theorem dX5_passesBy_17 : decode cX5_passesBy 17 = .ok (.invokevirtual 153, 3) := by decide +kernel
theorem dX5_passesBy_20 : decode cX5_passesBy 20 = .ok (.istore_n 3, 1) := by decide +kernel
theorem dX5_passesBy_21 : decode cX5_passesBy 21 = .ok (.iconst 5, 1) := by decide +kernel
theorem dX5_passesBy_22 : decode cX5_passesBy 22 = .ok (.iload_n 2, 1) := by decide +kernel
theorem dX5_passesBy_23 : decode cX5_passesBy 23 = .ok (.imul, 1) := by decide +kernel
theorem dX5_passesBy_24 : decode cX5_passesBy 24 = .ok (.istore 4, 2) := by decide +kernel
theorem dX5_passesBy_26 : decode cX5_passesBy 26 = .ok (.iload 4, 2) := by decide +kernel
theorem dX5_passesBy_28 : decode cX5_passesBy 28 = .ok (.iconst 5, 1) := by decide +kernel
theorem dX5_passesBy_29 : decode cX5_passesBy 29 = .ok (.iload_n 2, 1) := by decide +kernel
theorem dX5_passesBy_30 : decode cX5_passesBy 30 = .ok (.imul, 1) := by decide +kernel
theorem dX5_passesBy_31 : decode cX5_passesBy 31 = .ok (.iconst 5, 1) := by decide +kernel
theorem dX5_passesBy_32 : decode cX5_passesBy 32 = .ok (.iadd, 1) := by decide +kernel
theorem dX5_passesBy_33 : decode cX5_passesBy 33 = .ok (.if_icmp .ge 44, 3) := by decide +kernel
theorem dX5_passesBy_36 : decode cX5_passesBy 36 = .ok (.aload_n 0, 1) := by decide +kernel
theorem dX5_passesBy_37 : decode cX5_passesBy 37 = .ok (.getfield 19, 3) := by decide +kernel
theorem dX5_passesBy_40 : decode cX5_passesBy 40 = .ok (.iload 4, 2) := by decide +kernel
theorem dX5_passesBy_42 : decode cX5_passesBy 42 = .ok (.aload_n 0, 1) := by decide +kernel
theorem dX5_passesBy_43 : decode cX5_passesBy 43 = .ok (.getfield 19, 3) := by decide +kernel
theorem dX5_passesBy_46 : decode cX5_passesBy 46 = .ok (.iload 4, 2) := by decide +kernel
theorem dX5_passesBy_48 : decode cX5_passesBy 48 = .ok (.iaload, 1) := by decide +kernel
theorem dX5_passesBy_49 : decode cX5_passesBy 49 = .ok (.iload_n 3, 1) := by decide +kernel
theorem dX5_passesBy_50 : decode cX5_passesBy 50 = .ok (.if_icmp .ge 7, 3) := by decide +kernel
theorem dX5_passesBy_53 : decode cX5_passesBy 53 = .ok (.iconst 0, 1) := by decide +kernel
theorem dX5_passesBy_54 : decode cX5_passesBy 54 = .ok (.goto 16, 3) := by decide +kernel
theorem dX5_passesBy_57 : decode cX5_passesBy 57 = .ok (.iconst 0, 1) := by decide +kernel
theorem dX5_passesBy_58 : decode cX5_passesBy 58 = .ok (.aload_n 0, 1) := by decide +kernel
theorem dX5_passesBy_59 : decode cX5_passesBy 59 = .ok (.getfield 19, 3) := by decide +kernel
theorem dX5_passesBy_62 : decode cX5_passesBy 62 = .ok (.iload 4, 2) := by decide +kernel
theorem dX5_passesBy_64 : decode cX5_passesBy 64 = .ok (.iaload, 1) := by decide +kernel
theorem dX5_passesBy_65 : decode cX5_passesBy 65 = .ok (.iconst 1, 1) := by decide +kernel
theorem dX5_passesBy_66 : decode cX5_passesBy 66 = .ok (.isub, 1) := by decide +kernel
theorem dX5_passesBy_67 : decode cX5_passesBy 67 = .ok (.invokestatic 145, 3) := by decide +kernel
theorem dX5_passesBy_70 : decode cX5_passesBy 70 = .ok (.iastore, 1) := by decide +kernel
theorem dX5_passesBy_71 : decode cX5_passesBy 71 = .ok (.iinc 4 1, 3) := by decide +kernel
theorem dX5_passesBy_74 : decode cX5_passesBy 74 = .ok (.goto (-48), 3) := by decide +kernel
theorem dX5_passesBy_77 : decode cX5_passesBy 77 = .ok (.iconst 5, 1) := by decide +kernel
theorem dX5_passesBy_78 : decode cX5_passesBy 78 = .ok (.iload_n 2, 1) := by decide +kernel
theorem dX5_passesBy_79 : decode cX5_passesBy 79 = .ok (.imul, 1) := by decide +kernel
theorem dX5_passesBy_80 : decode cX5_passesBy 80 = .ok (.istore 4, 2) := by decide +kernel
theorem dX5_passesBy_82 : decode cX5_passesBy 82 = .ok (.iload 4, 2) := by decide +kernel
theorem dX5_passesBy_84 : decode cX5_passesBy 84 = .ok (.iconst 5, 1) := by decide +kernel
theorem dX5_passesBy_85 : decode cX5_passesBy 85 = .ok (.iload_n 2, 1) := by decide +kernel
theorem dX5_passesBy_86 : decode cX5_passesBy 86 = .ok (.imul, 1) := by decide +kernel
theorem dX5_passesBy_87 : decode cX5_passesBy 87 = .ok (.iconst 5, 1) := by decide +kernel
theorem dX5_passesBy_88 : decode cX5_passesBy 88 = .ok (.iadd, 1) := by decide +kernel
theorem dX5_passesBy_89 : decode cX5_passesBy 89 = .ok (.if_icmp .ge 19, 3) := by decide +kernel
theorem dX5_passesBy_92 : decode cX5_passesBy 92 = .ok (.aload_n 0, 1) := by decide +kernel
theorem dX5_passesBy_93 : decode cX5_passesBy 93 = .ok (.getfield 19, 3) := by decide +kernel
theorem dX5_passesBy_96 : decode cX5_passesBy 96 = .ok (.iload 4, 2) := by decide +kernel
theorem dX5_passesBy_98 : decode cX5_passesBy 98 = .ok (.iaload, 1) := by decide +kernel
theorem dX5_passesBy_99 : decode cX5_passesBy 99 = .ok (.ifCond .ne 9, 3) := by decide +kernel
theorem dX5_passesBy_102 : decode cX5_passesBy 102 = .ok (.iinc 4 1, 3) := by decide +kernel
theorem dX5_passesBy_105 : decode cX5_passesBy 105 = .ok (.goto (-23), 3) := by decide +kernel
theorem dX5_passesBy_108 : decode cX5_passesBy 108 = .ok (.aload_n 0, 1) := by decide +kernel
theorem dX5_passesBy_109 : decode cX5_passesBy 109 = .ok (.getfield 9, 3) := by decide +kernel
theorem dX5_passesBy_112 : decode cX5_passesBy 112 = .ok (.iload_n 2, 1) := by decide +kernel
theorem dX5_passesBy_113 : decode cX5_passesBy 113 = .ok (.iaload, 1) := by decide +kernel
theorem dX5_passesBy_114 : decode cX5_passesBy 114 = .ok (.iconst 3, 1) := by decide +kernel
theorem dX5_passesBy_115 : decode cX5_passesBy 115 = .ok (.if_icmp .ne 24, 3) := by decide +kernel
theorem dX5_passesBy_118 : decode cX5_passesBy 118 = .ok (.iload 4, 2) := by decide +kernel
theorem dX5_passesBy_120 : decode cX5_passesBy 120 = .ok (.iconst 5, 1) := by decide +kernel
theorem dX5_passesBy_121 : decode cX5_passesBy 121 = .ok (.iload_n 2, 1) := by decide +kernel
theorem dX5_passesBy_122 : decode cX5_passesBy 122 = .ok (.imul, 1) := by decide +kernel
theorem dX5_passesBy_123 : decode cX5_passesBy 123 = .ok (.iconst 5, 1) := by decide +kernel
theorem dX5_passesBy_124 : decode cX5_passesBy 124 = .ok (.iadd, 1) := by decide +kernel
theorem dX5_passesBy_125 : decode cX5_passesBy 125 = .ok (.if_icmp .ge 14, 3) := by decide +kernel
theorem dX5_passesBy_128 : decode cX5_passesBy 128 = .ok (.aload_n 0, 1) := by decide +kernel
theorem dX5_passesBy_129 : decode cX5_passesBy 129 = .ok (.getfield 19, 3) := by decide +kernel
theorem dX5_passesBy_132 : decode cX5_passesBy 132 = .ok (.iload 4, 2) := by decide +kernel
theorem dX5_passesBy_134 : decode cX5_passesBy 134 = .ok (.dup2, 1) := by decide +kernel
theorem dX5_passesBy_135 : decode cX5_passesBy 135 = .ok (.iaload, 1) := by decide +kernel
theorem dX5_passesBy_136 : decode cX5_passesBy 136 = .ok (.iconst 1, 1) := by decide +kernel
theorem dX5_passesBy_137 : decode cX5_passesBy 137 = .ok (.isub, 1) := by decide +kernel
theorem dX5_passesBy_138 : decode cX5_passesBy 138 = .ok (.iastore, 1) := by decide +kernel
theorem dX5_passesBy_139 : decode cX5_passesBy 139 = .ok (.iinc 2 1, 3) := by decide +kernel
theorem dX5_passesBy_142 : decode cX5_passesBy 142 = .ok (.goto (-136), 3) := by decide +kernel
theorem dX5_passesBy_145 : decode cX5_passesBy 145 = .ok (.aload_n 0, 1) := by decide +kernel
theorem dX5_passesBy_146 : decode cX5_passesBy 146 = .ok (.dup, 1) := by decide +kernel
theorem dX5_passesBy_147 : decode cX5_passesBy 147 = .ok (.getfield 133, 3) := by decide +kernel
theorem dX5_passesBy_150 : decode cX5_passesBy 150 = .ok (.iconst 1, 1) := by decide +kernel
theorem dX5_passesBy_151 : decode cX5_passesBy 151 = .ok (.iadd, 1) := by decide +kernel
theorem dX5_passesBy_152 : decode cX5_passesBy 152 = .ok (.putfield 133, 3) := by decide +kernel
theorem dX5_passesBy_155 : decode cX5_passesBy 155 = .ok (.return_, 1) := by decide +kernel
theorem dX5_goesOn_0 : decode cX5_goesOn 0 = .ok (.iconst 0, 1) := by decide +kernel
theorem dX5_goesOn_1 : decode cX5_goesOn 1 = .ok (.istore_n 2, 1) := by decide +kernel
theorem dX5_goesOn_2 : decode cX5_goesOn 2 = .ok (.iload_n 2, 1) := by decide +kernel
theorem dX5_goesOn_3 : decode cX5_goesOn 3 = .ok (.iload_n 1, 1) := by decide +kernel
theorem dX5_goesOn_4 : decode cX5_goesOn 4 = .ok (.if_icmp .ge 21, 3) := by decide +kernel
theorem dX5_goesOn_7 : decode cX5_goesOn 7 = .ok (.aload_n 0, 1) := by decide +kernel
theorem dX5_goesOn_8 : decode cX5_goesOn 8 = .ok (.aload_n 0, 1) := by decide +kernel
theorem dX5_goesOn_9 : decode cX5_goesOn 9 = .ok (.aload_n 0, 1) := by decide +kernel
theorem dX5_goesOn_10 : decode cX5_goesOn 10 = .ok (.getfield 133, 3) := by decide +kernel
theorem dX5_goesOn_13 : decode cX5_goesOn 13 = .ok (.invokevirtual 156, 3) := by decide +kernel
theorem dX5_goesOn_16 : decode cX5_goesOn 16 = .ok (.invokevirtual 159, 3) := by decide +kernel
theorem dX5_goesOn_19 : decode cX5_goesOn 19 = .ok (.iinc 2 1, 3) := by decide +kernel
theorem dX5_goesOn_22 : decode cX5_goesOn 22 = .ok (.goto (-20), 3) := by decide +kernel
theorem dX5_goesOn_25 : decode cX5_goesOn 25 = .ok (.return_, 1) := by decide +kernel
theorem dX5_peak_0 : decode cX5_peak 0 = .ok (.aload_n 0, 1) := by decide +kernel
theorem dX5_peak_1 : decode cX5_peak 1 = .ok (.iload_n 1, 1) := by decide +kernel
theorem dX5_peak_2 : decode cX5_peak 2 = .ok (.invokevirtual 163, 3) := by decide +kernel
theorem dX5_peak_5 : decode cX5_peak 5 = .ok (.ifCond .eq 12, 3) := by decide +kernel
theorem dX5_peak_8 : decode cX5_peak 8 = .ok (.iload_n 2, 1) := by decide +kernel
theorem dX5_peak_9 : decode cX5_peak 9 = .ok (.iconst 0, 1) := by decide +kernel
theorem dX5_peak_10 : decode cX5_peak 10 = .ok (.iconst 5, 1) := by decide +kernel
theorem dX5_peak_11 : decode cX5_peak 11 = .ok (.invokestatic 81, 3) := by decide +kernel
theorem dX5_peak_14 : decode cX5_peak 14 = .ok (.ifCond .ne 5, 3) := by decide +kernel
theorem dX5_peak_17 : decode cX5_peak 17 = .ok (.iconst (-1), 1) := by decide +kernel
theorem dX5_peak_18 : decode cX5_peak 18 = .ok (.ireturn, 1) := by decide +kernel
theorem dX5_peak_19 : decode cX5_peak 19 = .ok (.iload_n 2, 1) := by decide +kernel
theorem dX5_peak_20 : decode cX5_peak 20 = .ok (.tableswitch 77 0 4 #[36, 43, 50, 56, 63], 36) := by decide +kernel
theorem dX5_peak_56 : decode cX5_peak 56 = .ok (.aload_n 0, 1) := by decide +kernel
theorem dX5_peak_57 : decode cX5_peak 57 = .ok (.getfield 9, 3) := by decide +kernel
theorem dX5_peak_60 : decode cX5_peak 60 = .ok (.iload_n 1, 1) := by decide +kernel
theorem dX5_peak_61 : decode cX5_peak 61 = .ok (.iaload, 1) := by decide +kernel
theorem dX5_peak_62 : decode cX5_peak 62 = .ok (.ireturn, 1) := by decide +kernel
theorem dX5_peak_63 : decode cX5_peak 63 = .ok (.aload_n 0, 1) := by decide +kernel
theorem dX5_peak_64 : decode cX5_peak 64 = .ok (.getfield 13, 3) := by decide +kernel
theorem dX5_peak_67 : decode cX5_peak 67 = .ok (.iload_n 1, 1) := by decide +kernel
theorem dX5_peak_68 : decode cX5_peak 68 = .ok (.iaload, 1) := by decide +kernel
theorem dX5_peak_69 : decode cX5_peak 69 = .ok (.ireturn, 1) := by decide +kernel
theorem dX5_peak_70 : decode cX5_peak 70 = .ok (.aload_n 0, 1) := by decide +kernel
theorem dX5_peak_71 : decode cX5_peak 71 = .ok (.iload_n 1, 1) := by decide +kernel
theorem dX5_peak_72 : decode cX5_peak 72 = .ok (.invokevirtual 85, 3) := by decide +kernel
theorem dX5_peak_75 : decode cX5_peak 75 = .ok (.ireturn, 1) := by decide +kernel
theorem dX5_peak_76 : decode cX5_peak 76 = .ok (.aload_n 0, 1) := by decide +kernel
theorem dX5_peak_77 : decode cX5_peak 77 = .ok (.getfield 25, 3) := by decide +kernel
theorem dX5_peak_80 : decode cX5_peak 80 = .ok (.iload_n 1, 1) := by decide +kernel
theorem dX5_peak_81 : decode cX5_peak 81 = .ok (.iaload, 1) := by decide +kernel
theorem dX5_peak_82 : decode cX5_peak 82 = .ok (.ireturn, 1) := by decide +kernel
theorem dX5_peak_83 : decode cX5_peak 83 = .ok (.aload_n 0, 1) := by decide +kernel
theorem dX5_peak_84 : decode cX5_peak 84 = .ok (.iload_n 1, 1) := by decide +kernel
theorem dX5_peak_85 : decode cX5_peak 85 = .ok (.aload_n 0, 1) := by decide +kernel
theorem dX5_peak_86 : decode cX5_peak 86 = .ok (.aload_n 0, 1) := by decide +kernel
theorem dX5_peak_87 : decode cX5_peak 87 = .ok (.getfield 133, 3) := by decide +kernel
theorem dX5_peak_90 : decode cX5_peak 90 = .ok (.invokevirtual 156, 3) := by decide +kernel
theorem dX5_peak_93 : decode cX5_peak 93 = .ok (.invokevirtual 153, 3) := by decide +kernel
theorem dX5_peak_96 : decode cX5_peak 96 = .ok (.ireturn, 1) := by decide +kernel
theorem dX5_peak_97 : decode cX5_peak 97 = .ok (.aload_n 0, 1) := by decide +kernel
theorem dX5_peak_98 : decode cX5_peak 98 = .ok (.iload_n 1, 1) := by decide +kernel
theorem dX5_peak_99 : decode cX5_peak 99 = .ok (.invokevirtual 167, 3) := by decide +kernel
theorem dX5_peak_102 : decode cX5_peak 102 = .ok (.ireturn, 1) := by decide +kernel
theorem dX5_pins_0 : decode cX5_pins 0 = .ok (.aload_n 0, 1) := by decide +kernel
theorem dX5_pins_1 : decode cX5_pins 1 = .ok (.iload_n 1, 1) := by decide +kernel
theorem dX5_pins_2 : decode cX5_pins 2 = .ok (.invokevirtual 163, 3) := by decide +kernel
theorem dX5_pins_5 : decode cX5_pins 5 = .ok (.ifCond .eq 23, 3) := by decide +kernel
theorem dX5_pins_8 : decode cX5_pins 8 = .ok (.iload_n 2, 1) := by decide +kernel
theorem dX5_pins_9 : decode cX5_pins 9 = .ok (.invokestatic 170, 3) := by decide +kernel
theorem dX5_pins_12 : decode cX5_pins 12 = .ok (.ifCond .eq 16, 3) := by decide +kernel
theorem dX5_pins_15 : decode cX5_pins 15 = .ok (.aload_n 0, 1) := by decide +kernel
theorem dX5_pins_16 : decode cX5_pins 16 = .ok (.getfield 19, 3) := by decide +kernel
theorem dX5_pins_19 : decode cX5_pins 19 = .ok (.iconst 5, 1) := by decide +kernel
theorem dX5_pins_20 : decode cX5_pins 20 = .ok (.iload_n 1, 1) := by decide +kernel
theorem dX5_pins_21 : decode cX5_pins 21 = .ok (.imul, 1) := by decide +kernel
theorem dX5_pins_22 : decode cX5_pins 22 = .ok (.iload_n 2, 1) := by decide +kernel
theorem dX5_pins_23 : decode cX5_pins 23 = .ok (.iadd, 1) := by decide +kernel
theorem dX5_pins_24 : decode cX5_pins 24 = .ok (.iaload, 1) := by decide +kernel
theorem dX5_pins_25 : decode cX5_pins 25 = .ok (.goto 4, 3) := by decide +kernel
theorem dX5_pins_28 : decode cX5_pins 28 = .ok (.iconst (-1), 1) := by decide +kernel
theorem dX5_pins_29 : decode cX5_pins 29 = .ok (.ireturn, 1) := by decide +kernel
theorem dX5_store_0 : decode cX5_store 0 = .ok (.iload_n 1, 1) := by decide +kernel
theorem dX5_store_1 : decode cX5_store 1 = .ok (.invokestatic 170, 3) := by decide +kernel
theorem dX5_store_4 : decode cX5_store 4 = .ok (.ifCond .eq 12, 3) := by decide +kernel
theorem dX5_store_7 : decode cX5_store 7 = .ok (.aload_n 0, 1) := by decide +kernel
theorem dX5_store_8 : decode cX5_store 8 = .ok (.getfield 22, 3) := by decide +kernel
theorem dX5_store_11 : decode cX5_store 11 = .ok (.iload_n 1, 1) := by decide +kernel
theorem dX5_store_12 : decode cX5_store 12 = .ok (.iaload, 1) := by decide +kernel
theorem dX5_store_13 : decode cX5_store 13 = .ok (.goto 4, 3) := by decide +kernel
theorem dX5_store_16 : decode cX5_store 16 = .ok (.iconst (-1), 1) := by decide +kernel
theorem dX5_store_17 : decode cX5_store 17 = .ok (.ireturn, 1) := by decide +kernel
theorem dX5_wind_0 : decode cX5_wind 0 = .ok (.iload_n 1, 1) := by decide +kernel
theorem dX5_wind_1 : decode cX5_wind 1 = .ok (.iconst 0, 1) := by decide +kernel
theorem dX5_wind_2 : decode cX5_wind 2 = .ok (.bipush 99, 2) := by decide +kernel
theorem dX5_wind_4 : decode cX5_wind 4 = .ok (.invokestatic 81, 3) := by decide +kernel
theorem dX5_wind_7 : decode cX5_wind 7 = .ok (.ifCond .eq 16, 3) := by decide +kernel
theorem dX5_wind_10 : decode cX5_wind 10 = .ok (.aload_n 0, 1) := by decide +kernel
theorem dX5_wind_11 : decode cX5_wind 11 = .ok (.aload_n 0, 1) := by decide +kernel
theorem dX5_wind_12 : decode cX5_wind 12 = .ok (.getfield 133, 3) := by decide +kernel
theorem dX5_wind_15 : decode cX5_wind 15 = .ok (.iload_n 1, 1) := by decide +kernel
theorem dX5_wind_16 : decode cX5_wind 16 = .ok (.iadd, 1) := by decide +kernel
theorem dX5_wind_17 : decode cX5_wind 17 = .ok (.invokevirtual 156, 3) := by decide +kernel
theorem dX5_wind_20 : decode cX5_wind 20 = .ok (.goto 4, 3) := by decide +kernel
theorem dX5_wind_23 : decode cX5_wind 23 = .ok (.iconst (-1), 1) := by decide +kernel
theorem dX5_wind_24 : decode cX5_wind 24 = .ok (.ireturn, 1) := by decide +kernel
theorem dX5_lays_0 : decode cX5_lays 0 = .ok (.aload_n 1, 1) := by decide +kernel
theorem dX5_lays_1 : decode cX5_lays 1 = .ok (.iload_n 2, 1) := by decide +kernel
theorem dX5_lays_2 : decode cX5_lays 2 = .ok (.aload_n 0, 1) := by decide +kernel
theorem dX5_lays_3 : decode cX5_lays 3 = .ok (.getfield 133, 3) := by decide +kernel
theorem dX5_lays_6 : decode cX5_lays 6 = .ok (.iastore, 1) := by decide +kernel
theorem dX5_lays_7 : decode cX5_lays 7 = .ok (.iconst 0, 1) := by decide +kernel
theorem dX5_lays_8 : decode cX5_lays 8 = .ok (.istore_n 3, 1) := by decide +kernel
theorem dX5_lays_9 : decode cX5_lays 9 = .ok (.iload_n 3, 1) := by decide +kernel
theorem dX5_lays_10 : decode cX5_lays 10 = .ok (.bipush 30, 2) := by decide +kernel
theorem dX5_lays_12 : decode cX5_lays 12 = .ok (.if_icmp .ge 22, 3) := by decide +kernel
theorem dX5_lays_15 : decode cX5_lays 15 = .ok (.aload_n 1, 1) := by decide +kernel
theorem dX5_lays_16 : decode cX5_lays 16 = .ok (.iload_n 2, 1) := by decide +kernel
theorem dX5_lays_17 : decode cX5_lays 17 = .ok (.iconst 1, 1) := by decide +kernel
theorem dX5_lays_18 : decode cX5_lays 18 = .ok (.iadd, 1) := by decide +kernel
theorem dX5_lays_19 : decode cX5_lays 19 = .ok (.iload_n 3, 1) := by decide +kernel
theorem dX5_lays_20 : decode cX5_lays 20 = .ok (.iadd, 1) := by decide +kernel
theorem dX5_lays_21 : decode cX5_lays 21 = .ok (.aload_n 0, 1) := by decide +kernel
theorem dX5_lays_22 : decode cX5_lays 22 = .ok (.getfield 19, 3) := by decide +kernel
theorem dX5_lays_25 : decode cX5_lays 25 = .ok (.iload_n 3, 1) := by decide +kernel
theorem dX5_lays_26 : decode cX5_lays 26 = .ok (.iaload, 1) := by decide +kernel
theorem dX5_lays_27 : decode cX5_lays 27 = .ok (.iastore, 1) := by decide +kernel
theorem dX5_lays_28 : decode cX5_lays 28 = .ok (.iinc 3 1, 3) := by decide +kernel
theorem dX5_lays_31 : decode cX5_lays 31 = .ok (.goto (-22), 3) := by decide +kernel
theorem dX5_lays_34 : decode cX5_lays 34 = .ok (.iconst 0, 1) := by decide +kernel
theorem dX5_lays_35 : decode cX5_lays 35 = .ok (.istore_n 3, 1) := by decide +kernel
theorem dX5_lays_36 : decode cX5_lays 36 = .ok (.iload_n 3, 1) := by decide +kernel
theorem dX5_lays_37 : decode cX5_lays 37 = .ok (.iconst 5, 1) := by decide +kernel
theorem dX5_lays_38 : decode cX5_lays 38 = .ok (.if_icmp .ge 23, 3) := by decide +kernel
theorem dX5_lays_41 : decode cX5_lays 41 = .ok (.aload_n 1, 1) := by decide +kernel
theorem dX5_lays_42 : decode cX5_lays 42 = .ok (.iload_n 2, 1) := by decide +kernel
theorem dX5_lays_43 : decode cX5_lays 43 = .ok (.bipush 31, 2) := by decide +kernel
theorem dX5_lays_45 : decode cX5_lays 45 = .ok (.iadd, 1) := by decide +kernel
theorem dX5_lays_46 : decode cX5_lays 46 = .ok (.iload_n 3, 1) := by decide +kernel
theorem dX5_lays_47 : decode cX5_lays 47 = .ok (.iadd, 1) := by decide +kernel
theorem dX5_lays_48 : decode cX5_lays 48 = .ok (.aload_n 0, 1) := by decide +kernel
theorem dX5_lays_49 : decode cX5_lays 49 = .ok (.getfield 22, 3) := by decide +kernel
theorem dX5_lays_52 : decode cX5_lays 52 = .ok (.iload_n 3, 1) := by decide +kernel
theorem dX5_lays_53 : decode cX5_lays 53 = .ok (.iaload, 1) := by decide +kernel
theorem dX5_lays_54 : decode cX5_lays 54 = .ok (.iastore, 1) := by decide +kernel
theorem dX5_lays_55 : decode cX5_lays 55 = .ok (.iinc 3 1, 3) := by decide +kernel
theorem dX5_lays_58 : decode cX5_lays 58 = .ok (.goto (-22), 3) := by decide +kernel
theorem dX5_lays_61 : decode cX5_lays 61 = .ok (.iconst 0, 1) := by decide +kernel
theorem dX5_lays_62 : decode cX5_lays 62 = .ok (.istore_n 3, 1) := by decide +kernel
theorem dX5_lays_63 : decode cX5_lays 63 = .ok (.iload_n 3, 1) := by decide +kernel
theorem dX5_lays_64 : decode cX5_lays 64 = .ok (.bipush 6, 2) := by decide +kernel
theorem dX5_lays_66 : decode cX5_lays 66 = .ok (.if_icmp .ge 23, 3) := by decide +kernel
theorem dX5_lays_69 : decode cX5_lays 69 = .ok (.aload_n 1, 1) := by decide +kernel
theorem dX5_lays_70 : decode cX5_lays 70 = .ok (.iload_n 2, 1) := by decide +kernel
theorem dX5_lays_71 : decode cX5_lays 71 = .ok (.bipush 36, 2) := by decide +kernel
theorem dX5_lays_73 : decode cX5_lays 73 = .ok (.iadd, 1) := by decide +kernel
theorem dX5_lays_74 : decode cX5_lays 74 = .ok (.iload_n 3, 1) := by decide +kernel
theorem dX5_lays_75 : decode cX5_lays 75 = .ok (.iadd, 1) := by decide +kernel
theorem dX5_lays_76 : decode cX5_lays 76 = .ok (.aload_n 0, 1) := by decide +kernel
theorem dX5_lays_77 : decode cX5_lays 77 = .ok (.getfield 25, 3) := by decide +kernel
theorem dX5_lays_80 : decode cX5_lays 80 = .ok (.iload_n 3, 1) := by decide +kernel
theorem dX5_lays_81 : decode cX5_lays 81 = .ok (.iaload, 1) := by decide +kernel
theorem dX5_lays_82 : decode cX5_lays 82 = .ok (.iastore, 1) := by decide +kernel
theorem dX5_lays_83 : decode cX5_lays 83 = .ok (.iinc 3 1, 3) := by decide +kernel
theorem dX5_lays_86 : decode cX5_lays 86 = .ok (.goto (-23), 3) := by decide +kernel
theorem dX5_lays_89 : decode cX5_lays 89 = .ok (.return_, 1) := by decide +kernel
theorem dX5_takes_0 : decode cX5_takes 0 = .ok (.aload_n 0, 1) := by decide +kernel
theorem dX5_takes_1 : decode cX5_takes 1 = .ok (.aload_n 1, 1) := by decide +kernel
theorem dX5_takes_2 : decode cX5_takes 2 = .ok (.iload_n 2, 1) := by decide +kernel
theorem dX5_takes_3 : decode cX5_takes 3 = .ok (.iaload, 1) := by decide +kernel
theorem dX5_takes_4 : decode cX5_takes 4 = .ok (.putfield 133, 3) := by decide +kernel
theorem dX5_takes_7 : decode cX5_takes 7 = .ok (.iconst 0, 1) := by decide +kernel
theorem dX5_takes_8 : decode cX5_takes 8 = .ok (.istore_n 3, 1) := by decide +kernel
theorem dX5_takes_9 : decode cX5_takes 9 = .ok (.iload_n 3, 1) := by decide +kernel
theorem dX5_takes_10 : decode cX5_takes 10 = .ok (.bipush 30, 2) := by decide +kernel
theorem dX5_takes_12 : decode cX5_takes 12 = .ok (.if_icmp .ge 22, 3) := by decide +kernel
theorem dX5_takes_15 : decode cX5_takes 15 = .ok (.aload_n 0, 1) := by decide +kernel
theorem dX5_takes_16 : decode cX5_takes 16 = .ok (.getfield 19, 3) := by decide +kernel
theorem dX5_takes_19 : decode cX5_takes 19 = .ok (.iload_n 3, 1) := by decide +kernel
theorem dX5_takes_20 : decode cX5_takes 20 = .ok (.aload_n 1, 1) := by decide +kernel
theorem dX5_takes_21 : decode cX5_takes 21 = .ok (.iload_n 2, 1) := by decide +kernel
theorem dX5_takes_22 : decode cX5_takes 22 = .ok (.iconst 1, 1) := by decide +kernel
theorem dX5_takes_23 : decode cX5_takes 23 = .ok (.iadd, 1) := by decide +kernel
theorem dX5_takes_24 : decode cX5_takes 24 = .ok (.iload_n 3, 1) := by decide +kernel
theorem dX5_takes_25 : decode cX5_takes 25 = .ok (.iadd, 1) := by decide +kernel
theorem dX5_takes_26 : decode cX5_takes 26 = .ok (.iaload, 1) := by decide +kernel
theorem dX5_takes_27 : decode cX5_takes 27 = .ok (.iastore, 1) := by decide +kernel
theorem dX5_takes_28 : decode cX5_takes 28 = .ok (.iinc 3 1, 3) := by decide +kernel
theorem dX5_takes_31 : decode cX5_takes 31 = .ok (.goto (-22), 3) := by decide +kernel
theorem dX5_takes_34 : decode cX5_takes 34 = .ok (.iconst 0, 1) := by decide +kernel
theorem dX5_takes_35 : decode cX5_takes 35 = .ok (.istore_n 3, 1) := by decide +kernel
theorem dX5_takes_36 : decode cX5_takes 36 = .ok (.iload_n 3, 1) := by decide +kernel
theorem dX5_takes_37 : decode cX5_takes 37 = .ok (.iconst 5, 1) := by decide +kernel
theorem dX5_takes_38 : decode cX5_takes 38 = .ok (.if_icmp .ge 23, 3) := by decide +kernel
theorem dX5_takes_41 : decode cX5_takes 41 = .ok (.aload_n 0, 1) := by decide +kernel
theorem dX5_takes_42 : decode cX5_takes 42 = .ok (.getfield 22, 3) := by decide +kernel
theorem dX5_takes_45 : decode cX5_takes 45 = .ok (.iload_n 3, 1) := by decide +kernel
theorem dX5_takes_46 : decode cX5_takes 46 = .ok (.aload_n 1, 1) := by decide +kernel
theorem dX5_takes_47 : decode cX5_takes 47 = .ok (.iload_n 2, 1) := by decide +kernel
theorem dX5_takes_48 : decode cX5_takes 48 = .ok (.bipush 31, 2) := by decide +kernel
theorem dX5_takes_50 : decode cX5_takes 50 = .ok (.iadd, 1) := by decide +kernel
theorem dX5_takes_51 : decode cX5_takes 51 = .ok (.iload_n 3, 1) := by decide +kernel
theorem dX5_takes_52 : decode cX5_takes 52 = .ok (.iadd, 1) := by decide +kernel
theorem dX5_takes_53 : decode cX5_takes 53 = .ok (.iaload, 1) := by decide +kernel
theorem dX5_takes_54 : decode cX5_takes 54 = .ok (.iastore, 1) := by decide +kernel
theorem dX5_takes_55 : decode cX5_takes 55 = .ok (.iinc 3 1, 3) := by decide +kernel
theorem dX5_takes_58 : decode cX5_takes 58 = .ok (.goto (-22), 3) := by decide +kernel
theorem dX5_takes_61 : decode cX5_takes 61 = .ok (.iconst 0, 1) := by decide +kernel
theorem dX5_takes_62 : decode cX5_takes 62 = .ok (.istore_n 3, 1) := by decide +kernel
theorem dX5_takes_63 : decode cX5_takes 63 = .ok (.iload_n 3, 1) := by decide +kernel
theorem dX5_takes_64 : decode cX5_takes 64 = .ok (.bipush 6, 2) := by decide +kernel
theorem dX5_takes_66 : decode cX5_takes 66 = .ok (.if_icmp .ge 23, 3) := by decide +kernel
theorem dX5_takes_69 : decode cX5_takes 69 = .ok (.aload_n 0, 1) := by decide +kernel
theorem dX5_takes_70 : decode cX5_takes 70 = .ok (.getfield 25, 3) := by decide +kernel
theorem dX5_takes_73 : decode cX5_takes 73 = .ok (.iload_n 3, 1) := by decide +kernel
theorem dX5_takes_74 : decode cX5_takes 74 = .ok (.aload_n 1, 1) := by decide +kernel
theorem dX5_takes_75 : decode cX5_takes 75 = .ok (.iload_n 2, 1) := by decide +kernel
theorem dX5_takes_76 : decode cX5_takes 76 = .ok (.bipush 36, 2) := by decide +kernel
theorem dX5_takes_78 : decode cX5_takes 78 = .ok (.iadd, 1) := by decide +kernel
theorem dX5_takes_79 : decode cX5_takes 79 = .ok (.iload_n 3, 1) := by decide +kernel
theorem dX5_takes_80 : decode cX5_takes 80 = .ok (.iadd, 1) := by decide +kernel
theorem dX5_takes_81 : decode cX5_takes 81 = .ok (.iaload, 1) := by decide +kernel
theorem dX5_takes_82 : decode cX5_takes 82 = .ok (.iastore, 1) := by decide +kernel
theorem dX5_takes_83 : decode cX5_takes 83 = .ok (.iinc 3 1, 3) := by decide +kernel
theorem dX5_takes_86 : decode cX5_takes 86 = .ok (.goto (-23), 3) := by decide +kernel
theorem dX5_takes_89 : decode cX5_takes 89 = .ok (.return_, 1) := by decide +kernel
theorem dX5_notes_0 : decode cX5_notes 0 = .ok (.aload_n 0, 1) := by decide +kernel
theorem dX5_notes_1 : decode cX5_notes 1 = .ok (.getfield 139, 3) := by decide +kernel
theorem dX5_notes_4 : decode cX5_notes 4 = .ok (.bipush 8, 2) := by decide +kernel
theorem dX5_notes_6 : decode cX5_notes 6 = .ok (.if_icmp .ne 43, 3) := by decide +kernel
theorem dX5_notes_9 : decode cX5_notes 9 = .ok (.iconst 0, 1) := by decide +kernel
theorem dX5_notes_10 : decode cX5_notes 10 = .ok (.istore_n 1, 1) := by decide +kernel
theorem dX5_notes_11 : decode cX5_notes 11 = .ok (.iload_n 1, 1) := by decide +kernel
theorem dX5_notes_12 : decode cX5_notes 12 = .ok (.sipush 294, 3) := by decide +kernel
theorem dX5_notes_15 : decode cX5_notes 15 = .ok (.if_icmp .ge 24, 3) := by decide +kernel
theorem dX5_notes_18 : decode cX5_notes 18 = .ok (.aload_n 0, 1) := by decide +kernel
theorem dX5_notes_19 : decode cX5_notes 19 = .ok (.getfield 52, 3) := by decide +kernel
theorem dX5_notes_22 : decode cX5_notes 22 = .ok (.iload_n 1, 1) := by decide +kernel
theorem dX5_notes_23 : decode cX5_notes 23 = .ok (.aload_n 0, 1) := by decide +kernel
theorem dX5_notes_24 : decode cX5_notes 24 = .ok (.getfield 52, 3) := by decide +kernel
theorem dX5_notes_27 : decode cX5_notes 27 = .ok (.iload_n 1, 1) := by decide +kernel
theorem dX5_notes_28 : decode cX5_notes 28 = .ok (.bipush 42, 2) := by decide +kernel
theorem dX5_notes_30 : decode cX5_notes 30 = .ok (.iadd, 1) := by decide +kernel
theorem dX5_notes_31 : decode cX5_notes 31 = .ok (.iaload, 1) := by decide +kernel
theorem dX5_notes_32 : decode cX5_notes 32 = .ok (.iastore, 1) := by decide +kernel
theorem dX5_notes_33 : decode cX5_notes 33 = .ok (.iinc 1 1, 3) := by decide +kernel
theorem dX5_notes_36 : decode cX5_notes 36 = .ok (.goto (-25), 3) := by decide +kernel
theorem dX5_notes_39 : decode cX5_notes 39 = .ok (.aload_n 0, 1) := by decide +kernel
theorem dX5_notes_40 : decode cX5_notes 40 = .ok (.dup, 1) := by decide +kernel
theorem dX5_notes_41 : decode cX5_notes 41 = .ok (.getfield 139, 3) := by decide +kernel
theorem dX5_notes_44 : decode cX5_notes 44 = .ok (.iconst 1, 1) := by decide +kernel
theorem dX5_notes_45 : decode cX5_notes 45 = .ok (.isub, 1) := by decide +kernel
theorem dX5_notes_46 : decode cX5_notes 46 = .ok (.putfield 139, 3) := by decide +kernel
theorem dX5_notes_49 : decode cX5_notes 49 = .ok (.aload_n 0, 1) := by decide +kernel
theorem dX5_notes_50 : decode cX5_notes 50 = .ok (.aload_n 0, 1) := by decide +kernel
theorem dX5_notes_51 : decode cX5_notes 51 = .ok (.getfield 52, 3) := by decide +kernel
theorem dX5_notes_54 : decode cX5_notes 54 = .ok (.bipush 42, 2) := by decide +kernel
theorem dX5_notes_56 : decode cX5_notes 56 = .ok (.aload_n 0, 1) := by decide +kernel
theorem dX5_notes_57 : decode cX5_notes 57 = .ok (.getfield 139, 3) := by decide +kernel
theorem dX5_notes_60 : decode cX5_notes 60 = .ok (.imul, 1) := by decide +kernel
theorem dX5_notes_61 : decode cX5_notes 61 = .ok (.invokevirtual 173, 3) := by decide +kernel
theorem dX5_notes_64 : decode cX5_notes 64 = .ok (.aload_n 0, 1) := by decide +kernel
theorem dX5_notes_65 : decode cX5_notes 65 = .ok (.dup, 1) := by decide +kernel
theorem dX5_notes_66 : decode cX5_notes 66 = .ok (.getfield 139, 3) := by decide +kernel
theorem dX5_notes_69 : decode cX5_notes 69 = .ok (.iconst 1, 1) := by decide +kernel
theorem dX5_notes_70 : decode cX5_notes 70 = .ok (.iadd, 1) := by decide +kernel
theorem dX5_notes_71 : decode cX5_notes 71 = .ok (.putfield 139, 3) := by decide +kernel
theorem dX5_notes_74 : decode cX5_notes 74 = .ok (.return_, 1) := by decide +kernel
theorem dX5_mayPut_0 : decode cX5_mayPut 0 = .ok (.aload_n 0, 1) := by decide +kernel
theorem dX5_mayPut_1 : decode cX5_mayPut 1 = .ok (.getfield 19, 3) := by decide +kernel
theorem dX5_mayPut_4 : decode cX5_mayPut 4 = .ok (.iconst 5, 1) := by decide +kernel
theorem dX5_mayPut_5 : decode cX5_mayPut 5 = .ok (.iload_n 1, 1) := by decide +kernel
theorem dX5_mayPut_6 : decode cX5_mayPut 6 = .ok (.imul, 1) := by decide +kernel
theorem dX5_mayPut_7 : decode cX5_mayPut 7 = .ok (.iload_n 2, 1) := by decide +kernel
theorem dX5_mayPut_8 : decode cX5_mayPut 8 = .ok (.iadd, 1) := by decide +kernel
theorem dX5_mayPut_9 : decode cX5_mayPut 9 = .ok (.iaload, 1) := by decide +kernel
theorem dX5_mayPut_10 : decode cX5_mayPut 10 = .ok (.ifCond .ne 16, 3) := by decide +kernel
theorem dX5_mayPut_13 : decode cX5_mayPut 13 = .ok (.aload_n 0, 1) := by decide +kernel
theorem dX5_mayPut_14 : decode cX5_mayPut 14 = .ok (.getfield 22, 3) := by decide +kernel
theorem dX5_mayPut_17 : decode cX5_mayPut 17 = .ok (.iload_n 2, 1) := by decide +kernel
theorem dX5_mayPut_18 : decode cX5_mayPut 18 = .ok (.iaload, 1) := by decide +kernel
theorem dX5_mayPut_19 : decode cX5_mayPut 19 = .ok (.ifCond .le 7, 3) := by decide +kernel
theorem dX5_mayPut_22 : decode cX5_mayPut 22 = .ok (.iconst 1, 1) := by decide +kernel
theorem dX5_mayPut_23 : decode cX5_mayPut 23 = .ok (.goto 4, 3) := by decide +kernel
theorem dX5_mayPut_26 : decode cX5_mayPut 26 = .ok (.iconst 0, 1) := by decide +kernel
theorem dX5_mayPut_27 : decode cX5_mayPut 27 = .ok (.ireturn, 1) := by decide +kernel
theorem dX5_puts_0 : decode cX5_puts 0 = .ok (.aload_n 0, 1) := by decide +kernel
theorem dX5_puts_1 : decode cX5_puts 1 = .ok (.getfield 19, 3) := by decide +kernel
theorem dX5_puts_4 : decode cX5_puts 4 = .ok (.iconst 5, 1) := by decide +kernel
theorem dX5_puts_5 : decode cX5_puts 5 = .ok (.iload_n 1, 1) := by decide +kernel
theorem dX5_puts_6 : decode cX5_puts 6 = .ok (.imul, 1) := by decide +kernel
theorem dX5_puts_7 : decode cX5_puts 7 = .ok (.iload_n 2, 1) := by decide +kernel
theorem dX5_puts_8 : decode cX5_puts 8 = .ok (.iadd, 1) := by decide +kernel
theorem dX5_puts_9 : decode cX5_puts 9 = .ok (.iload_n 3, 1) := by decide +kernel
theorem dX5_puts_10 : decode cX5_puts 10 = .ok (.iastore, 1) := by decide +kernel
theorem dX5_puts_11 : decode cX5_puts 11 = .ok (.aload_n 0, 1) := by decide +kernel
theorem dX5_puts_12 : decode cX5_puts 12 = .ok (.getfield 22, 3) := by decide +kernel
theorem dX5_puts_15 : decode cX5_puts 15 = .ok (.iload_n 2, 1) := by decide +kernel
theorem dX5_puts_16 : decode cX5_puts 16 = .ok (.dup2, 1) := by decide +kernel
theorem dX5_puts_17 : decode cX5_puts 17 = .ok (.iaload, 1) := by decide +kernel
theorem dX5_puts_18 : decode cX5_puts 18 = .ok (.iconst 1, 1) := by decide +kernel
theorem dX5_puts_19 : decode cX5_puts 19 = .ok (.isub, 1) := by decide +kernel
theorem dX5_puts_20 : decode cX5_puts 20 = .ok (.iastore, 1) := by decide +kernel
theorem dX5_puts_21 : decode cX5_puts 21 = .ok (.return_, 1) := by decide +kernel
theorem dX5_takesOff_0 : decode cX5_takesOff 0 = .ok (.aload_n 0, 1) := by decide +kernel
theorem dX5_takesOff_1 : decode cX5_takesOff 1 = .ok (.getfield 19, 3) := by decide +kernel
theorem dX5_takesOff_4 : decode cX5_takesOff 4 = .ok (.iconst 5, 1) := by decide +kernel
theorem dX5_takesOff_5 : decode cX5_takesOff 5 = .ok (.iload_n 1, 1) := by decide +kernel
theorem dX5_takesOff_6 : decode cX5_takesOff 6 = .ok (.imul, 1) := by decide +kernel
theorem dX5_takesOff_7 : decode cX5_takesOff 7 = .ok (.iload_n 2, 1) := by decide +kernel
theorem dX5_takesOff_8 : decode cX5_takesOff 8 = .ok (.iadd, 1) := by decide +kernel
theorem dX5_takesOff_9 : decode cX5_takesOff 9 = .ok (.iconst 0, 1) := by decide +kernel
theorem dX5_takesOff_10 : decode cX5_takesOff 10 = .ok (.iastore, 1) := by decide +kernel
theorem dX5_takesOff_11 : decode cX5_takesOff 11 = .ok (.aload_n 0, 1) := by decide +kernel
theorem dX5_takesOff_12 : decode cX5_takesOff 12 = .ok (.getfield 22, 3) := by decide +kernel
theorem dX5_takesOff_15 : decode cX5_takesOff 15 = .ok (.iload_n 2, 1) := by decide +kernel
theorem dX5_takesOff_16 : decode cX5_takesOff 16 = .ok (.dup2, 1) := by decide +kernel
theorem dX5_takesOff_17 : decode cX5_takesOff 17 = .ok (.iaload, 1) := by decide +kernel
theorem dX5_takesOff_18 : decode cX5_takesOff 18 = .ok (.iconst 1, 1) := by decide +kernel
theorem dX5_takesOff_19 : decode cX5_takesOff 19 = .ok (.iadd, 1) := by decide +kernel
theorem dX5_takesOff_20 : decode cX5_takesOff 20 = .ok (.iastore, 1) := by decide +kernel
theorem dX5_takesOff_21 : decode cX5_takesOff 21 = .ok (.return_, 1) := by decide +kernel
theorem dX5_put_0 : decode cX5_put 0 = .ok (.aload_n 0, 1) := by decide +kernel
theorem dX5_put_1 : decode cX5_put 1 = .ok (.iload_n 1, 1) := by decide +kernel
theorem dX5_put_2 : decode cX5_put 2 = .ok (.invokevirtual 163, 3) := by decide +kernel
theorem dX5_put_5 : decode cX5_put 5 = .ok (.ifCond .eq 20, 3) := by decide +kernel
theorem dX5_put_8 : decode cX5_put 8 = .ok (.iload_n 2, 1) := by decide +kernel
theorem dX5_put_9 : decode cX5_put 9 = .ok (.invokestatic 170, 3) := by decide +kernel
theorem dX5_put_12 : decode cX5_put 12 = .ok (.ifCond .eq 13, 3) := by decide +kernel
theorem dX5_put_15 : decode cX5_put 15 = .ok (.iload_n 3, 1) := by decide +kernel
theorem dX5_put_16 : decode cX5_put 16 = .ok (.iconst 1, 1) := by decide +kernel
theorem dX5_put_17 : decode cX5_put 17 = .ok (.bipush 20, 2) := by decide +kernel
theorem dX5_put_19 : decode cX5_put 19 = .ok (.invokestatic 81, 3) := by decide +kernel
theorem dX5_put_22 : decode cX5_put 22 = .ok (.ifCond .ne 5, 3) := by decide +kernel
theorem dX5_put_25 : decode cX5_put 25 = .ok (.iconst (-1), 1) := by decide +kernel
theorem dX5_put_26 : decode cX5_put 26 = .ok (.ireturn, 1) := by decide +kernel
theorem dX5_put_27 : decode cX5_put 27 = .ok (.aload_n 0, 1) := by decide +kernel
theorem dX5_put_28 : decode cX5_put 28 = .ok (.iload_n 1, 1) := by decide +kernel
theorem dX5_put_29 : decode cX5_put 29 = .ok (.iload_n 2, 1) := by decide +kernel
theorem dX5_put_30 : decode cX5_put 30 = .ok (.invokevirtual 177, 3) := by decide +kernel
theorem dX5_put_33 : decode cX5_put 33 = .ok (.ifCond .ne 6, 3) := by decide +kernel
theorem dX5_put_36 : decode cX5_put 36 = .ok (.bipush (-2), 2) := by decide +kernel
theorem dX5_put_38 : decode cX5_put 38 = .ok (.ireturn, 1) := by decide +kernel
theorem dX5_put_39 : decode cX5_put 39 = .ok (.aload_n 0, 1) := by decide +kernel
theorem dX5_put_40 : decode cX5_put 40 = .ok (.invokevirtual 180, 3) := by decide +kernel
theorem dX5_put_43 : decode cX5_put 43 = .ok (.aload_n 0, 1) := by decide +kernel
theorem dX5_put_44 : decode cX5_put 44 = .ok (.iload_n 1, 1) := by decide +kernel
theorem dX5_put_45 : decode cX5_put 45 = .ok (.iload_n 2, 1) := by decide +kernel
theorem dX5_put_46 : decode cX5_put 46 = .ok (.iload_n 3, 1) := by decide +kernel
theorem dX5_put_47 : decode cX5_put 47 = .ok (.invokevirtual 183, 3) := by decide +kernel
theorem dX5_put_50 : decode cX5_put 50 = .ok (.aload_n 0, 1) := by decide +kernel
theorem dX5_put_51 : decode cX5_put 51 = .ok (.iload_n 1, 1) := by decide +kernel
theorem dX5_put_52 : decode cX5_put 52 = .ok (.invokevirtual 85, 3) := by decide +kernel
theorem dX5_put_55 : decode cX5_put 55 = .ok (.ireturn, 1) := by decide +kernel
theorem dX5_take_0 : decode cX5_take 0 = .ok (.aload_n 0, 1) := by decide +kernel
theorem dX5_take_1 : decode cX5_take 1 = .ok (.iload_n 1, 1) := by decide +kernel
theorem dX5_take_2 : decode cX5_take 2 = .ok (.invokevirtual 163, 3) := by decide +kernel
theorem dX5_take_5 : decode cX5_take 5 = .ok (.ifCond .eq 10, 3) := by decide +kernel
theorem dX5_take_8 : decode cX5_take 8 = .ok (.iload_n 2, 1) := by decide +kernel
theorem dX5_take_9 : decode cX5_take 9 = .ok (.invokestatic 170, 3) := by decide +kernel
theorem dX5_take_12 : decode cX5_take 12 = .ok (.ifCond .ne 5, 3) := by decide +kernel
theorem dX5_take_15 : decode cX5_take 15 = .ok (.iconst (-1), 1) := by decide +kernel
theorem dX5_take_16 : decode cX5_take 16 = .ok (.ireturn, 1) := by decide +kernel
theorem dX5_take_17 : decode cX5_take 17 = .ok (.aload_n 0, 1) := by decide +kernel
theorem dX5_take_18 : decode cX5_take 18 = .ok (.getfield 19, 3) := by decide +kernel
theorem dX5_take_21 : decode cX5_take 21 = .ok (.iconst 5, 1) := by decide +kernel
theorem dX5_take_22 : decode cX5_take 22 = .ok (.iload_n 1, 1) := by decide +kernel
theorem dX5_take_23 : decode cX5_take 23 = .ok (.imul, 1) := by decide +kernel
theorem dX5_take_24 : decode cX5_take 24 = .ok (.iload_n 2, 1) := by decide +kernel
theorem dX5_take_25 : decode cX5_take 25 = .ok (.iadd, 1) := by decide +kernel
theorem dX5_take_26 : decode cX5_take 26 = .ok (.iaload, 1) := by decide +kernel
theorem dX5_take_27 : decode cX5_take 27 = .ok (.ifCond .ne 6, 3) := by decide +kernel
theorem dX5_take_30 : decode cX5_take 30 = .ok (.bipush (-2), 2) := by decide +kernel
theorem dX5_take_32 : decode cX5_take 32 = .ok (.ireturn, 1) := by decide +kernel
theorem dX5_take_33 : decode cX5_take 33 = .ok (.aload_n 0, 1) := by decide +kernel
theorem dX5_take_34 : decode cX5_take 34 = .ok (.invokevirtual 180, 3) := by decide +kernel
theorem dX5_take_37 : decode cX5_take 37 = .ok (.aload_n 0, 1) := by decide +kernel
theorem dX5_take_38 : decode cX5_take 38 = .ok (.iload_n 1, 1) := by decide +kernel
theorem dX5_take_39 : decode cX5_take 39 = .ok (.iload_n 2, 1) := by decide +kernel
theorem dX5_take_40 : decode cX5_take 40 = .ok (.invokevirtual 187, 3) := by decide +kernel
theorem dX5_take_43 : decode cX5_take 43 = .ok (.aload_n 0, 1) := by decide +kernel
theorem dX5_take_44 : decode cX5_take 44 = .ok (.iload_n 1, 1) := by decide +kernel
theorem dX5_take_45 : decode cX5_take 45 = .ok (.invokevirtual 85, 3) := by decide +kernel
theorem dX5_take_48 : decode cX5_take 48 = .ok (.ireturn, 1) := by decide +kernel
theorem dX5_pin_0 : decode cX5_pin 0 = .ok (.aload_n 0, 1) := by decide +kernel
theorem dX5_pin_1 : decode cX5_pin 1 = .ok (.iload_n 1, 1) := by decide +kernel
theorem dX5_pin_2 : decode cX5_pin 2 = .ok (.invokevirtual 163, 3) := by decide +kernel
theorem dX5_pin_5 : decode cX5_pin 5 = .ok (.ifCond .eq 20, 3) := by decide +kernel
theorem dX5_pin_8 : decode cX5_pin 8 = .ok (.iload_n 2, 1) := by decide +kernel
theorem dX5_pin_9 : decode cX5_pin 9 = .ok (.invokestatic 170, 3) := by decide +kernel
theorem dX5_pin_12 : decode cX5_pin 12 = .ok (.ifCond .eq 13, 3) := by decide +kernel
theorem dX5_pin_15 : decode cX5_pin 15 = .ok (.iload_n 3, 1) := by decide +kernel
theorem dX5_pin_16 : decode cX5_pin 16 = .ok (.iconst 1, 1) := by decide +kernel
theorem dX5_pin_17 : decode cX5_pin 17 = .ok (.bipush 20, 2) := by decide +kernel
theorem dX5_pin_19 : decode cX5_pin 19 = .ok (.invokestatic 81, 3) := by decide +kernel
theorem dX5_pin_22 : decode cX5_pin 22 = .ok (.ifCond .ne 5, 3) := by decide +kernel
theorem dX5_pin_25 : decode cX5_pin 25 = .ok (.iconst (-1), 1) := by decide +kernel
theorem dX5_pin_26 : decode cX5_pin 26 = .ok (.ireturn, 1) := by decide +kernel
theorem dX5_pin_27 : decode cX5_pin 27 = .ok (.aload_n 0, 1) := by decide +kernel
theorem dX5_pin_28 : decode cX5_pin 28 = .ok (.getfield 19, 3) := by decide +kernel
theorem dX5_pin_31 : decode cX5_pin 31 = .ok (.iconst 5, 1) := by decide +kernel
theorem dX5_pin_32 : decode cX5_pin 32 = .ok (.iload_n 1, 1) := by decide +kernel
theorem dX5_pin_33 : decode cX5_pin 33 = .ok (.imul, 1) := by decide +kernel
theorem dX5_pin_34 : decode cX5_pin 34 = .ok (.iload_n 2, 1) := by decide +kernel
theorem dX5_pin_35 : decode cX5_pin 35 = .ok (.iadd, 1) := by decide +kernel
theorem dX5_pin_36 : decode cX5_pin 36 = .ok (.iaload, 1) := by decide +kernel
theorem dX5_pin_37 : decode cX5_pin 37 = .ok (.istore 4, 2) := by decide +kernel
theorem dX5_pin_39 : decode cX5_pin 39 = .ok (.iload 4, 2) := by decide +kernel
theorem dX5_pin_41 : decode cX5_pin 41 = .ok (.ifCond .ne 6, 3) := by decide +kernel
theorem dX5_pin_44 : decode cX5_pin 44 = .ok (.bipush (-2), 2) := by decide +kernel
theorem dX5_pin_46 : decode cX5_pin 46 = .ok (.ireturn, 1) := by decide +kernel
theorem dX5_pin_47 : decode cX5_pin 47 = .ok (.aload_n 0, 1) := by decide +kernel
theorem dX5_pin_48 : decode cX5_pin 48 = .ok (.invokevirtual 180, 3) := by decide +kernel
theorem dX5_pin_51 : decode cX5_pin 51 = .ok (.aload_n 0, 1) := by decide +kernel
theorem dX5_pin_52 : decode cX5_pin 52 = .ok (.getfield 19, 3) := by decide +kernel
theorem dX5_pin_55 : decode cX5_pin 55 = .ok (.iconst 5, 1) := by decide +kernel
theorem dX5_pin_56 : decode cX5_pin 56 = .ok (.iload_n 1, 1) := by decide +kernel
theorem dX5_pin_57 : decode cX5_pin 57 = .ok (.imul, 1) := by decide +kernel
theorem dX5_pin_58 : decode cX5_pin 58 = .ok (.iload_n 2, 1) := by decide +kernel
theorem dX5_pin_59 : decode cX5_pin 59 = .ok (.iadd, 1) := by decide +kernel
theorem dX5_pin_60 : decode cX5_pin 60 = .ok (.iload_n 3, 1) := by decide +kernel
theorem dX5_pin_61 : decode cX5_pin 61 = .ok (.iastore, 1) := by decide +kernel
theorem dX5_pin_62 : decode cX5_pin 62 = .ok (.iload 4, 2) := by decide +kernel
theorem dX5_pin_64 : decode cX5_pin 64 = .ok (.ireturn, 1) := by decide +kernel
theorem dX5_pass_0 : decode cX5_pass 0 = .ok (.iload_n 1, 1) := by decide +kernel
theorem dX5_pass_1 : decode cX5_pass 1 = .ok (.iconst 1, 1) := by decide +kernel
theorem dX5_pass_2 : decode cX5_pass 2 = .ok (.bipush 20, 2) := by decide +kernel
theorem dX5_pass_4 : decode cX5_pass 4 = .ok (.invokestatic 81, 3) := by decide +kernel
theorem dX5_pass_7 : decode cX5_pass 7 = .ok (.ifCond .ne 5, 3) := by decide +kernel
theorem dX5_pass_10 : decode cX5_pass 10 = .ok (.iconst (-1), 1) := by decide +kernel
theorem dX5_pass_11 : decode cX5_pass 11 = .ok (.ireturn, 1) := by decide +kernel
theorem dX5_pass_12 : decode cX5_pass 12 = .ok (.aload_n 0, 1) := by decide +kernel
theorem dX5_pass_13 : decode cX5_pass 13 = .ok (.getfield 133, 3) := by decide +kernel
theorem dX5_pass_16 : decode cX5_pass 16 = .ok (.iload_n 1, 1) := by decide +kernel
theorem dX5_pass_17 : decode cX5_pass 17 = .ok (.iadd, 1) := by decide +kernel
theorem dX5_pass_18 : decode cX5_pass 18 = .ok (.sipush 999, 3) := by decide +kernel
theorem dX5_pass_21 : decode cX5_pass 21 = .ok (.if_icmp .le 6, 3) := by decide +kernel
theorem dX5_pass_24 : decode cX5_pass 24 = .ok (.bipush (-2), 2) := by decide +kernel
theorem dX5_pass_26 : decode cX5_pass 26 = .ok (.ireturn, 1) := by decide +kernel
theorem dX5_pass_27 : decode cX5_pass 27 = .ok (.aload_n 0, 1) := by decide +kernel
theorem dX5_pass_28 : decode cX5_pass 28 = .ok (.invokevirtual 180, 3) := by decide +kernel
theorem dX5_pass_31 : decode cX5_pass 31 = .ok (.aload_n 0, 1) := by decide +kernel
theorem dX5_pass_32 : decode cX5_pass 32 = .ok (.iload_n 1, 1) := by decide +kernel
theorem dX5_pass_33 : decode cX5_pass 33 = .ok (.invokevirtual 190, 3) := by decide +kernel
theorem dX5_pass_36 : decode cX5_pass 36 = .ok (.aload_n 0, 1) := by decide +kernel
theorem dX5_pass_37 : decode cX5_pass 37 = .ok (.getfield 133, 3) := by decide +kernel
theorem dX5_pass_40 : decode cX5_pass 40 = .ok (.ireturn, 1) := by decide +kernel
theorem dX5_undo_0 : decode cX5_undo 0 = .ok (.aload_n 0, 1) := by decide +kernel
theorem dX5_undo_1 : decode cX5_undo 1 = .ok (.getfield 139, 3) := by decide +kernel
theorem dX5_undo_4 : decode cX5_undo 4 = .ok (.ifCond .ne 6, 3) := by decide +kernel
theorem dX5_undo_7 : decode cX5_undo 7 = .ok (.bipush (-2), 2) := by decide +kernel
theorem dX5_undo_9 : decode cX5_undo 9 = .ok (.ireturn, 1) := by decide +kernel
theorem dX5_undo_10 : decode cX5_undo 10 = .ok (.aload_n 0, 1) := by decide +kernel
theorem dX5_undo_11 : decode cX5_undo 11 = .ok (.dup, 1) := by decide +kernel
theorem dX5_undo_12 : decode cX5_undo 12 = .ok (.getfield 139, 3) := by decide +kernel
theorem dX5_undo_15 : decode cX5_undo 15 = .ok (.iconst 1, 1) := by decide +kernel
theorem dX5_undo_16 : decode cX5_undo 16 = .ok (.isub, 1) := by decide +kernel
theorem dX5_undo_17 : decode cX5_undo 17 = .ok (.putfield 139, 3) := by decide +kernel
theorem dX5_undo_20 : decode cX5_undo 20 = .ok (.aload_n 0, 1) := by decide +kernel
theorem dX5_undo_21 : decode cX5_undo 21 = .ok (.aload_n 0, 1) := by decide +kernel
theorem dX5_undo_22 : decode cX5_undo 22 = .ok (.getfield 52, 3) := by decide +kernel
theorem dX5_undo_25 : decode cX5_undo 25 = .ok (.bipush 42, 2) := by decide +kernel
theorem dX5_undo_27 : decode cX5_undo 27 = .ok (.aload_n 0, 1) := by decide +kernel
theorem dX5_undo_28 : decode cX5_undo 28 = .ok (.getfield 139, 3) := by decide +kernel
theorem dX5_undo_31 : decode cX5_undo 31 = .ok (.imul, 1) := by decide +kernel
theorem dX5_undo_32 : decode cX5_undo 32 = .ok (.invokevirtual 193, 3) := by decide +kernel
theorem dX5_undo_35 : decode cX5_undo 35 = .ok (.aload_n 0, 1) := by decide +kernel
theorem dX5_undo_36 : decode cX5_undo 36 = .ok (.getfield 139, 3) := by decide +kernel
theorem dX5_undo_39 : decode cX5_undo 39 = .ok (.ireturn, 1) := by decide +kernel
theorem dX5_begin_0 : decode cX5_begin 0 = .ok (.aload_n 0, 1) := by decide +kernel
theorem dX5_begin_1 : decode cX5_begin 1 = .ok (.aload_n 0, 1) := by decide +kernel
theorem dX5_begin_2 : decode cX5_begin 2 = .ok (.getfield 55, 3) := by decide +kernel
theorem dX5_begin_5 : decode cX5_begin 5 = .ok (.iconst 0, 1) := by decide +kernel
theorem dX5_begin_6 : decode cX5_begin 6 = .ok (.invokevirtual 173, 3) := by decide +kernel
theorem dX5_begin_9 : decode cX5_begin 9 = .ok (.return_, 1) := by decide +kernel
theorem dX5_putBack_0 : decode cX5_putBack 0 = .ok (.aload_n 0, 1) := by decide +kernel
theorem dX5_putBack_1 : decode cX5_putBack 1 = .ok (.aload_n 0, 1) := by decide +kernel
theorem dX5_putBack_2 : decode cX5_putBack 2 = .ok (.getfield 55, 3) := by decide +kernel
theorem dX5_putBack_5 : decode cX5_putBack 5 = .ok (.iconst 0, 1) := by decide +kernel
theorem dX5_putBack_6 : decode cX5_putBack 6 = .ok (.invokevirtual 193, 3) := by decide +kernel
theorem dX5_putBack_9 : decode cX5_putBack 9 = .ok (.return_, 1) := by decide +kernel
theorem dX5_pairsAlike_0 : decode cX5_pairsAlike 0 = .ok (.iconst 0, 1) := by decide +kernel
theorem dX5_pairsAlike_1 : decode cX5_pairsAlike 1 = .ok (.istore_n 1, 1) := by decide +kernel
theorem dX5_pairsAlike_2 : decode cX5_pairsAlike 2 = .ok (.iconst 0, 1) := by decide +kernel
theorem dX5_pairsAlike_3 : decode cX5_pairsAlike 3 = .ok (.istore_n 2, 1) := by decide +kernel
theorem dX5_pairsAlike_4 : decode cX5_pairsAlike 4 = .ok (.iload_n 2, 1) := by decide +kernel
theorem dX5_pairsAlike_5 : decode cX5_pairsAlike 5 = .ok (.aload_n 0, 1) := by decide +kernel
theorem dX5_pairsAlike_6 : decode cX5_pairsAlike 6 = .ok (.getfield 78, 3) := by decide +kernel
theorem dX5_pairsAlike_9 : decode cX5_pairsAlike 9 = .ok (.if_icmp .ge 48, 3) := by decide +kernel
theorem dX5_pairsAlike_12 : decode cX5_pairsAlike 12 = .ok (.iload_n 2, 1) := by decide +kernel
theorem dX5_pairsAlike_13 : decode cX5_pairsAlike 13 = .ok (.iconst 1, 1) := by decide +kernel
theorem dX5_pairsAlike_14 : decode cX5_pairsAlike 14 = .ok (.iadd, 1) := by decide +kernel
theorem dX5_pairsAlike_15 : decode cX5_pairsAlike 15 = .ok (.istore_n 3, 1) := by decide +kernel
theorem dX5_pairsAlike_16 : decode cX5_pairsAlike 16 = .ok (.iload_n 3, 1) := by decide +kernel
theorem dX5_pairsAlike_17 : decode cX5_pairsAlike 17 = .ok (.aload_n 0, 1) := by decide +kernel
theorem dX5_pairsAlike_18 : decode cX5_pairsAlike 18 = .ok (.getfield 78, 3) := by decide +kernel
theorem dX5_pairsAlike_21 : decode cX5_pairsAlike 21 = .ok (.if_icmp .ge 30, 3) := by decide +kernel
theorem dX5_pairsAlike_24 : decode cX5_pairsAlike 24 = .ok (.iload_n 1, 1) := by decide +kernel
theorem dX5_pairsAlike_25 : decode cX5_pairsAlike 25 = .ok (.aload_n 0, 1) := by decide +kernel
theorem dX5_pairsAlike_26 : decode cX5_pairsAlike 26 = .ok (.iload_n 2, 1) := by decide +kernel
theorem dX5_pairsAlike_27 : decode cX5_pairsAlike 27 = .ok (.invokevirtual 85, 3) := by decide +kernel
theorem dX5_pairsAlike_30 : decode cX5_pairsAlike 30 = .ok (.aload_n 0, 1) := by decide +kernel
theorem dX5_pairsAlike_31 : decode cX5_pairsAlike 31 = .ok (.iload_n 3, 1) := by decide +kernel
theorem dX5_pairsAlike_32 : decode cX5_pairsAlike 32 = .ok (.invokevirtual 85, 3) := by decide +kernel
theorem dX5_pairsAlike_35 : decode cX5_pairsAlike 35 = .ok (.if_icmp .ne 7, 3) := by decide +kernel
theorem dX5_pairsAlike_38 : decode cX5_pairsAlike 38 = .ok (.iconst 1, 1) := by decide +kernel
theorem dX5_pairsAlike_39 : decode cX5_pairsAlike 39 = .ok (.goto 4, 3) := by decide +kernel
theorem dX5_pairsAlike_42 : decode cX5_pairsAlike 42 = .ok (.iconst 0, 1) := by decide +kernel
theorem dX5_pairsAlike_43 : decode cX5_pairsAlike 43 = .ok (.iadd, 1) := by decide +kernel
theorem dX5_pairsAlike_44 : decode cX5_pairsAlike 44 = .ok (.istore_n 1, 1) := by decide +kernel
theorem dX5_pairsAlike_45 : decode cX5_pairsAlike 45 = .ok (.iinc 3 1, 3) := by decide +kernel
theorem dX5_pairsAlike_48 : decode cX5_pairsAlike 48 = .ok (.goto (-32), 3) := by decide +kernel
theorem dX5_pairsAlike_51 : decode cX5_pairsAlike 51 = .ok (.iinc 2 1, 3) := by decide +kernel
theorem dX5_pairsAlike_54 : decode cX5_pairsAlike 54 = .ok (.goto (-50), 3) := by decide +kernel
theorem dX5_pairsAlike_57 : decode cX5_pairsAlike 57 = .ok (.iload_n 1, 1) := by decide +kernel
theorem dX5_pairsAlike_58 : decode cX5_pairsAlike 58 = .ok (.ireturn, 1) := by decide +kernel
theorem dX5_alike_0 : decode cX5_alike 0 = .ok (.iload_n 1, 1) := by decide +kernel
theorem dX5_alike_1 : decode cX5_alike 1 = .ok (.iconst 0, 1) := by decide +kernel
theorem dX5_alike_2 : decode cX5_alike 2 = .ok (.iconst 1, 1) := by decide +kernel
theorem dX5_alike_3 : decode cX5_alike 3 = .ok (.invokestatic 81, 3) := by decide +kernel
theorem dX5_alike_6 : decode cX5_alike 6 = .ok (.ifCond .ne 5, 3) := by decide +kernel
theorem dX5_alike_9 : decode cX5_alike 9 = .ok (.iconst (-1), 1) := by decide +kernel
theorem dX5_alike_10 : decode cX5_alike 10 = .ok (.ireturn, 1) := by decide +kernel
theorem dX5_alike_11 : decode cX5_alike 11 = .ok (.bipush (-4), 2) := by decide +kernel
theorem dX5_alike_13 : decode cX5_alike 13 = .ok (.istore_n 2, 1) := by decide +kernel
theorem dX5_alike_14 : decode cX5_alike 14 = .ok (.aload_n 0, 1) := by decide +kernel
theorem dX5_alike_15 : decode cX5_alike 15 = .ok (.getfield 78, 3) := by decide +kernel
theorem dX5_alike_18 : decode cX5_alike 18 = .ok (.iconst 1, 1) := by decide +kernel
theorem dX5_alike_19 : decode cX5_alike 19 = .ok (.isub, 1) := by decide +kernel
theorem dX5_alike_20 : decode cX5_alike 20 = .ok (.istore_n 3, 1) := by decide +kernel
theorem dX5_alike_21 : decode cX5_alike 21 = .ok (.iload_n 3, 1) := by decide +kernel
theorem dX5_alike_22 : decode cX5_alike 22 = .ok (.ifCond .lt 55, 3) := by decide +kernel
theorem dX5_alike_25 : decode cX5_alike 25 = .ok (.aload_n 0, 1) := by decide +kernel
theorem dX5_alike_26 : decode cX5_alike 26 = .ok (.getfield 78, 3) := by decide +kernel
theorem dX5_alike_29 : decode cX5_alike 29 = .ok (.iconst 1, 1) := by decide +kernel
theorem dX5_alike_30 : decode cX5_alike 30 = .ok (.isub, 1) := by decide +kernel
theorem dX5_alike_31 : decode cX5_alike 31 = .ok (.istore 4, 2) := by decide +kernel
theorem dX5_alike_33 : decode cX5_alike 33 = .ok (.iload 4, 2) := by decide +kernel
theorem dX5_alike_35 : decode cX5_alike 35 = .ok (.iload_n 3, 1) := by decide +kernel
theorem dX5_alike_36 : decode cX5_alike 36 = .ok (.if_icmp .le 35, 3) := by decide +kernel
theorem dX5_alike_39 : decode cX5_alike 39 = .ok (.aload_n 0, 1) := by decide +kernel
theorem dX5_alike_40 : decode cX5_alike 40 = .ok (.iload_n 3, 1) := by decide +kernel
theorem dX5_alike_41 : decode cX5_alike 41 = .ok (.invokevirtual 85, 3) := by decide +kernel
theorem dX5_alike_44 : decode cX5_alike 44 = .ok (.aload_n 0, 1) := by decide +kernel
theorem dX5_alike_45 : decode cX5_alike 45 = .ok (.iload 4, 2) := by decide +kernel
theorem dX5_alike_47 : decode cX5_alike 47 = .ok (.invokevirtual 85, 3) := by decide +kernel
theorem dX5_alike_50 : decode cX5_alike 50 = .ok (.if_icmp .ne 13, 3) := by decide +kernel
theorem dX5_alike_53 : decode cX5_alike 53 = .ok (.bipush 10, 2) := by decide +kernel
theorem dX5_alike_55 : decode cX5_alike 55 = .ok (.iload_n 3, 1) := by decide +kernel
theorem dX5_alike_56 : decode cX5_alike 56 = .ok (.imul, 1) := by decide +kernel
theorem dX5_alike_57 : decode cX5_alike 57 = .ok (.iload 4, 2) := by decide +kernel
theorem dX5_alike_59 : decode cX5_alike 59 = .ok (.iadd, 1) := by decide +kernel
theorem dX5_alike_60 : decode cX5_alike 60 = .ok (.goto 4, 3) := by decide +kernel
theorem dX5_alike_63 : decode cX5_alike 63 = .ok (.iload_n 2, 1) := by decide +kernel
theorem dX5_alike_64 : decode cX5_alike 64 = .ok (.istore_n 2, 1) := by decide +kernel
theorem dX5_alike_65 : decode cX5_alike 65 = .ok (.iinc 4 (-1), 3) := by decide +kernel
theorem dX5_alike_68 : decode cX5_alike 68 = .ok (.goto (-35), 3) := by decide +kernel
theorem dX5_alike_71 : decode cX5_alike 71 = .ok (.iinc 3 (-1), 3) := by decide +kernel
theorem dX5_alike_74 : decode cX5_alike 74 = .ok (.goto (-53), 3) := by decide +kernel
theorem dX5_alike_77 : decode cX5_alike 77 = .ok (.iload_n 1, 1) := by decide +kernel
theorem dX5_alike_78 : decode cX5_alike 78 = .ok (.ifCond .ne 10, 3) := by decide +kernel
theorem dX5_alike_81 : decode cX5_alike 81 = .ok (.aload_n 0, 1) := by decide +kernel
theorem dX5_alike_82 : decode cX5_alike 82 = .ok (.invokevirtual 196, 3) := by decide +kernel
theorem dX5_alike_85 : decode cX5_alike 85 = .ok (.goto 4, 3) := by decide +kernel
theorem dX5_alike_88 : decode cX5_alike 88 = .ok (.iload_n 2, 1) := by decide +kernel
theorem dX5_alike_89 : decode cX5_alike 89 = .ok (.ireturn, 1) := by decide +kernel
theorem dX5_knownBy_0 : decode cX5_knownBy 0 = .ok (.iconst 0, 1) := by decide +kernel
theorem dX5_knownBy_1 : decode cX5_knownBy 1 = .ok (.istore_n 2, 1) := by decide +kernel
theorem dX5_knownBy_2 : decode cX5_knownBy 2 = .ok (.iload_n 2, 1) := by decide +kernel
theorem dX5_knownBy_3 : decode cX5_knownBy 3 = .ok (.aload_n 0, 1) := by decide +kernel
theorem dX5_knownBy_4 : decode cX5_knownBy 4 = .ok (.getfield 78, 3) := by decide +kernel
theorem dX5_knownBy_7 : decode cX5_knownBy 7 = .ok (.if_icmp .ge 23, 3) := by decide +kernel
theorem dX5_knownBy_10 : decode cX5_knownBy 10 = .ok (.aload_n 0, 1) := by decide +kernel
theorem dX5_knownBy_11 : decode cX5_knownBy 11 = .ok (.iload_n 2, 1) := by decide +kernel
theorem dX5_knownBy_12 : decode cX5_knownBy 12 = .ok (.invokevirtual 85, 3) := by decide +kernel
theorem dX5_knownBy_15 : decode cX5_knownBy 15 = .ok (.aload_n 0, 1) := by decide +kernel
theorem dX5_knownBy_16 : decode cX5_knownBy 16 = .ok (.getfield 25, 3) := by decide +kernel
theorem dX5_knownBy_19 : decode cX5_knownBy 19 = .ok (.iload_n 1, 1) := by decide +kernel
theorem dX5_knownBy_20 : decode cX5_knownBy 20 = .ok (.iaload, 1) := by decide +kernel
theorem dX5_knownBy_21 : decode cX5_knownBy 21 = .ok (.if_icmp .eq 9, 3) := by decide +kernel
theorem dX5_knownBy_24 : decode cX5_knownBy 24 = .ok (.iinc 2 1, 3) := by decide +kernel
theorem dX5_knownBy_27 : decode cX5_knownBy 27 = .ok (.goto (-25), 3) := by decide +kernel
theorem dX5_knownBy_30 : decode cX5_knownBy 30 = .ok (.iload_n 2, 1) := by decide +kernel
theorem dX5_knownBy_31 : decode cX5_knownBy 31 = .ok (.aload_n 0, 1) := by decide +kernel
theorem dX5_knownBy_32 : decode cX5_knownBy 32 = .ok (.getfield 78, 3) := by decide +kernel
theorem dX5_knownBy_35 : decode cX5_knownBy 35 = .ok (.if_icmp .ge 7, 3) := by decide +kernel
theorem dX5_knownBy_38 : decode cX5_knownBy 38 = .ok (.iload_n 2, 1) := by decide +kernel
theorem dX5_knownBy_39 : decode cX5_knownBy 39 = .ok (.goto 5, 3) := by decide +kernel
theorem dX5_knownBy_42 : decode cX5_knownBy 42 = .ok (.bipush (-4), 2) := by decide +kernel
theorem dX5_knownBy_44 : decode cX5_knownBy 44 = .ok (.ireturn, 1) := by decide +kernel
theorem dX5_known_0 : decode cX5_known 0 = .ok (.aload_n 0, 1) := by decide +kernel
theorem dX5_known_1 : decode cX5_known 1 = .ok (.iload_n 1, 1) := by decide +kernel
theorem dX5_known_2 : decode cX5_known 2 = .ok (.invokevirtual 163, 3) := by decide +kernel
theorem dX5_known_5 : decode cX5_known 5 = .ok (.ifCond .eq 11, 3) := by decide +kernel
theorem dX5_known_8 : decode cX5_known 8 = .ok (.aload_n 0, 1) := by decide +kernel
theorem dX5_known_9 : decode cX5_known 9 = .ok (.iload_n 1, 1) := by decide +kernel
theorem dX5_known_10 : decode cX5_known 10 = .ok (.invokevirtual 199, 3) := by decide +kernel
theorem dX5_known_13 : decode cX5_known 13 = .ok (.goto 4, 3) := by decide +kernel
theorem dX5_known_16 : decode cX5_known 16 = .ok (.iconst (-1), 1) := by decide +kernel
theorem dX5_known_17 : decode cX5_known 17 = .ok (.ireturn, 1) := by decide +kernel
theorem dX5_behind_0 : decode cX5_behind 0 = .ok (.iload_n 1, 1) := by decide +kernel
theorem dX5_behind_1 : decode cX5_behind 1 = .ok (.iconst 0, 1) := by decide +kernel
theorem dX5_behind_2 : decode cX5_behind 2 = .ok (.bipush 20, 2) := by decide +kernel
theorem dX5_behind_4 : decode cX5_behind 4 = .ok (.invokestatic 81, 3) := by decide +kernel
theorem dX5_behind_7 : decode cX5_behind 7 = .ok (.ifCond .eq 11, 3) := by decide +kernel
theorem dX5_behind_10 : decode cX5_behind 10 = .ok (.aload_n 0, 1) := by decide +kernel
theorem dX5_behind_11 : decode cX5_behind 11 = .ok (.iload_n 2, 1) := by decide +kernel
theorem dX5_behind_12 : decode cX5_behind 12 = .ok (.invokevirtual 163, 3) := by decide +kernel
theorem dX5_behind_15 : decode cX5_behind 15 = .ok (.ifCond .ne 5, 3) := by decide +kernel
theorem dX5_behind_18 : decode cX5_behind 18 = .ok (.iconst (-1), 1) := by decide +kernel
theorem dX5_behind_19 : decode cX5_behind 19 = .ok (.ireturn, 1) := by decide +kernel
theorem dX5_behind_20 : decode cX5_behind 20 = .ok (.aload_n 0, 1) := by decide +kernel
theorem dX5_behind_21 : decode cX5_behind 21 = .ok (.invokevirtual 202, 3) := by decide +kernel
theorem dX5_behind_24 : decode cX5_behind 24 = .ok (.aload_n 0, 1) := by decide +kernel
theorem dX5_behind_25 : decode cX5_behind 25 = .ok (.iload_n 1, 1) := by decide +kernel
theorem dX5_behind_26 : decode cX5_behind 26 = .ok (.invokevirtual 190, 3) := by decide +kernel
theorem dX5_behind_29 : decode cX5_behind 29 = .ok (.aload_n 0, 1) := by decide +kernel
theorem dX5_behind_30 : decode cX5_behind 30 = .ok (.iload_n 2, 1) := by decide +kernel
theorem dX5_behind_31 : decode cX5_behind 31 = .ok (.invokevirtual 85, 3) := by decide +kernel
theorem dX5_behind_34 : decode cX5_behind 34 = .ok (.istore_n 3, 1) := by decide +kernel
theorem dX5_behind_35 : decode cX5_behind 35 = .ok (.aload_n 0, 1) := by decide +kernel
theorem dX5_behind_36 : decode cX5_behind 36 = .ok (.invokevirtual 205, 3) := by decide +kernel
theorem dX5_behind_39 : decode cX5_behind 39 = .ok (.iload_n 3, 1) := by decide +kernel
theorem dX5_behind_40 : decode cX5_behind 40 = .ok (.ireturn, 1) := by decide +kernel
theorem dX5_goes_0 : decode cX5_goes 0 = .ok (.aload_n 0, 1) := by decide +kernel
theorem dX5_goes_1 : decode cX5_goes 1 = .ok (.iload_n 1, 1) := by decide +kernel
theorem dX5_goes_2 : decode cX5_goes 2 = .ok (.invokevirtual 163, 3) := by decide +kernel
theorem dX5_goes_5 : decode cX5_goes 5 = .ok (.ifCond .eq 10, 3) := by decide +kernel
theorem dX5_goes_8 : decode cX5_goes 8 = .ok (.iload_n 2, 1) := by decide +kernel
theorem dX5_goes_9 : decode cX5_goes 9 = .ok (.invokestatic 170, 3) := by decide +kernel
theorem dX5_goes_12 : decode cX5_goes 12 = .ok (.ifCond .ne 5, 3) := by decide +kernel
theorem dX5_goes_15 : decode cX5_goes 15 = .ok (.iconst (-1), 1) := by decide +kernel
theorem dX5_goes_16 : decode cX5_goes 16 = .ok (.ireturn, 1) := by decide +kernel
theorem dX5_goes_17 : decode cX5_goes 17 = .ok (.iconst 5, 1) := by decide +kernel
theorem dX5_goes_18 : decode cX5_goes 18 = .ok (.iload_n 1, 1) := by decide +kernel
theorem dX5_goes_19 : decode cX5_goes 19 = .ok (.imul, 1) := by decide +kernel
theorem dX5_goes_20 : decode cX5_goes 20 = .ok (.iload_n 2, 1) := by decide +kernel
theorem dX5_goes_21 : decode cX5_goes 21 = .ok (.iadd, 1) := by decide +kernel
theorem dX5_goes_22 : decode cX5_goes 22 = .ok (.istore_n 3, 1) := by decide +kernel
theorem dX5_goes_23 : decode cX5_goes 23 = .ok (.aload_n 0, 1) := by decide +kernel
theorem dX5_goes_24 : decode cX5_goes 24 = .ok (.getfield 19, 3) := by decide +kernel
theorem dX5_goes_27 : decode cX5_goes 27 = .ok (.iload_n 3, 1) := by decide +kernel
theorem dX5_goes_28 : decode cX5_goes 28 = .ok (.iaload, 1) := by decide +kernel
theorem dX5_goes_29 : decode cX5_goes 29 = .ok (.ifCond .ne 6, 3) := by decide +kernel
theorem dX5_goes_32 : decode cX5_goes 32 = .ok (.bipush (-2), 2) := by decide +kernel
theorem dX5_goes_34 : decode cX5_goes 34 = .ok (.ireturn, 1) := by decide +kernel
theorem dX5_goes_35 : decode cX5_goes 35 = .ok (.aload_n 0, 1) := by decide +kernel
theorem dX5_goes_36 : decode cX5_goes 36 = .ok (.invokevirtual 202, 3) := by decide +kernel
theorem dX5_goes_39 : decode cX5_goes 39 = .ok (.iconst 0, 1) := by decide +kernel
theorem dX5_goes_40 : decode cX5_goes 40 = .ok (.istore 4, 2) := by decide +kernel
theorem dX5_goes_42 : decode cX5_goes 42 = .ok (.iload 4, 2) := by decide +kernel
theorem dX5_goes_44 : decode cX5_goes 44 = .ok (.bipush 60, 2) := by decide +kernel
theorem dX5_goes_46 : decode cX5_goes 46 = .ok (.if_icmp .ge 23, 3) := by decide +kernel
theorem dX5_goes_49 : decode cX5_goes 49 = .ok (.aload_n 0, 1) := by decide +kernel
theorem dX5_goes_50 : decode cX5_goes 50 = .ok (.getfield 19, 3) := by decide +kernel
theorem dX5_goes_53 : decode cX5_goes 53 = .ok (.iload_n 3, 1) := by decide +kernel
theorem dX5_goes_54 : decode cX5_goes 54 = .ok (.iaload, 1) := by decide +kernel
theorem dX5_goes_55 : decode cX5_goes 55 = .ok (.ifCond .le 14, 3) := by decide +kernel
theorem dX5_goes_58 : decode cX5_goes 58 = .ok (.aload_n 0, 1) := by decide +kernel
theorem dX5_goes_59 : decode cX5_goes 59 = .ok (.iconst 1, 1) := by decide +kernel
theorem dX5_goes_60 : decode cX5_goes 60 = .ok (.invokevirtual 190, 3) := by decide +kernel
theorem dX5_goes_63 : decode cX5_goes 63 = .ok (.iinc 4 1, 3) := by decide +kernel
theorem dX5_goes_66 : decode cX5_goes 66 = .ok (.goto (-24), 3) := by decide +kernel
theorem dX5_goes_69 : decode cX5_goes 69 = .ok (.aload_n 0, 1) := by decide +kernel
theorem dX5_goes_70 : decode cX5_goes 70 = .ok (.getfield 19, 3) := by decide +kernel
theorem dX5_goes_73 : decode cX5_goes 73 = .ok (.iload_n 3, 1) := by decide +kernel
theorem dX5_goes_74 : decode cX5_goes 74 = .ok (.iaload, 1) := by decide +kernel
theorem dX5_goes_75 : decode cX5_goes 75 = .ok (.ifCond .ne 7, 3) := by decide +kernel
theorem dX5_goes_78 : decode cX5_goes 78 = .ok (.iconst 1, 1) := by decide +kernel
theorem dX5_goes_79 : decode cX5_goes 79 = .ok (.goto 4, 3) := by decide +kernel
theorem dX5_goes_82 : decode cX5_goes 82 = .ok (.iconst 0, 1) := by decide +kernel
theorem dX5_goes_83 : decode cX5_goes 83 = .ok (.istore 5, 2) := by decide +kernel
theorem dX5_goes_85 : decode cX5_goes 85 = .ok (.aload_n 0, 1) := by decide +kernel
theorem dX5_goes_86 : decode cX5_goes 86 = .ok (.invokevirtual 205, 3) := by decide +kernel
theorem dX5_goes_89 : decode cX5_goes 89 = .ok (.iload 5, 2) := by decide +kernel
theorem dX5_goes_91 : decode cX5_goes 91 = .ok (.ifCond .eq 8, 3) := by decide +kernel
theorem dX5_goes_94 : decode cX5_goes 94 = .ok (.iload 4, 2) := by decide +kernel
theorem dX5_goes_96 : decode cX5_goes 96 = .ok (.goto 5, 3) := by decide +kernel
theorem dX5_goes_99 : decode cX5_goes 99 = .ok (.bipush (-4), 2) := by decide +kernel
theorem dX5_goes_101 : decode cX5_goes 101 = .ok (.ireturn, 1) := by decide +kernel
theorem dX5_needed_0 : decode cX5_needed 0 = .ok (.iconst 0, 1) := by decide +kernel
theorem dX5_needed_1 : decode cX5_needed 1 = .ok (.istore 4, 2) := by decide +kernel
theorem dX5_needed_3 : decode cX5_needed 3 = .ok (.iconst 0, 1) := by decide +kernel
theorem dX5_needed_4 : decode cX5_needed 4 = .ok (.istore 5, 2) := by decide +kernel
theorem dX5_needed_6 : decode cX5_needed 6 = .ok (.iload 5, 2) := by decide +kernel
theorem dX5_needed_8 : decode cX5_needed 8 = .ok (.iload_n 3, 1) := by decide +kernel
theorem dX5_needed_9 : decode cX5_needed 9 = .ok (.if_icmp .ge 56, 3) := by decide +kernel
theorem dX5_needed_12 : decode cX5_needed 12 = .ok (.aload_n 0, 1) := by decide +kernel
theorem dX5_needed_13 : decode cX5_needed 13 = .ok (.iload_n 1, 1) := by decide +kernel
theorem dX5_needed_14 : decode cX5_needed 14 = .ok (.aload_n 0, 1) := by decide +kernel
theorem dX5_needed_15 : decode cX5_needed 15 = .ok (.aload_n 0, 1) := by decide +kernel
theorem dX5_needed_16 : decode cX5_needed 16 = .ok (.getfield 133, 3) := by decide +kernel
theorem dX5_needed_19 : decode cX5_needed 19 = .ok (.iload 5, 2) := by decide +kernel
theorem dX5_needed_21 : decode cX5_needed 21 = .ok (.iadd, 1) := by decide +kernel
theorem dX5_needed_22 : decode cX5_needed 22 = .ok (.invokevirtual 156, 3) := by decide +kernel
theorem dX5_needed_25 : decode cX5_needed 25 = .ok (.invokevirtual 153, 3) := by decide +kernel
theorem dX5_needed_28 : decode cX5_needed 28 = .ok (.istore 6, 2) := by decide +kernel
theorem dX5_needed_30 : decode cX5_needed 30 = .ok (.iload 4, 2) := by decide +kernel
theorem dX5_needed_32 : decode cX5_needed 32 = .ok (.iload 6, 2) := by decide +kernel
theorem dX5_needed_34 : decode cX5_needed 34 = .ok (.iload_n 2, 1) := by decide +kernel
theorem dX5_needed_35 : decode cX5_needed 35 = .ok (.iload 5, 2) := by decide +kernel
theorem dX5_needed_37 : decode cX5_needed 37 = .ok (.imul, 1) := by decide +kernel
theorem dX5_needed_38 : decode cX5_needed 38 = .ok (.iadd, 1) := by decide +kernel
theorem dX5_needed_39 : decode cX5_needed 39 = .ok (.invokestatic 145, 3) := by decide +kernel
theorem dX5_needed_42 : decode cX5_needed 42 = .ok (.istore 4, 2) := by decide +kernel
theorem dX5_needed_44 : decode cX5_needed 44 = .ok (.iload 4, 2) := by decide +kernel
theorem dX5_needed_46 : decode cX5_needed 46 = .ok (.iload_n 2, 1) := by decide +kernel
theorem dX5_needed_47 : decode cX5_needed 47 = .ok (.iload 5, 2) := by decide +kernel
theorem dX5_needed_49 : decode cX5_needed 49 = .ok (.imul, 1) := by decide +kernel
theorem dX5_needed_50 : decode cX5_needed 50 = .ok (.iload_n 2, 1) := by decide +kernel
theorem dX5_needed_51 : decode cX5_needed 51 = .ok (.iadd, 1) := by decide +kernel
theorem dX5_needed_52 : decode cX5_needed 52 = .ok (.iconst 1, 1) := by decide +kernel
theorem dX5_needed_53 : decode cX5_needed 53 = .ok (.iadd, 1) := by decide +kernel
theorem dX5_needed_54 : decode cX5_needed 54 = .ok (.invokestatic 145, 3) := by decide +kernel
theorem dX5_needed_57 : decode cX5_needed 57 = .ok (.istore 4, 2) := by decide +kernel
theorem dX5_needed_59 : decode cX5_needed 59 = .ok (.iinc 5 1, 3) := by decide +kernel
theorem dX5_needed_62 : decode cX5_needed 62 = .ok (.goto (-56), 3) := by decide +kernel
theorem dX5_needed_65 : decode cX5_needed 65 = .ok (.iload 4, 2) := by decide +kernel
theorem dX5_needed_67 : decode cX5_needed 67 = .ok (.ireturn, 1) := by decide +kernel
theorem dX5_hold_0 : decode cX5_hold 0 = .ok (.iload_n 1, 1) := by decide +kernel
theorem dX5_hold_1 : decode cX5_hold 1 = .ok (.iconst 1, 1) := by decide +kernel
theorem dX5_hold_2 : decode cX5_hold 2 = .ok (.bipush 20, 2) := by decide +kernel
theorem dX5_hold_4 : decode cX5_hold 4 = .ok (.invokestatic 81, 3) := by decide +kernel
theorem dX5_hold_7 : decode cX5_hold 7 = .ok (.ifCond .ne 5, 3) := by decide +kernel
theorem dX5_hold_10 : decode cX5_hold 10 = .ok (.iconst (-1), 1) := by decide +kernel
theorem dX5_hold_11 : decode cX5_hold 11 = .ok (.ireturn, 1) := by decide +kernel
theorem dX5_hold_12 : decode cX5_hold 12 = .ok (.iconst 0, 1) := by decide +kernel
theorem dX5_hold_13 : decode cX5_hold 13 = .ok (.istore_n 2, 1) := by decide +kernel
theorem dX5_hold_14 : decode cX5_hold 14 = .ok (.iconst 0, 1) := by decide +kernel
theorem dX5_hold_15 : decode cX5_hold 15 = .ok (.istore_n 3, 1) := by decide +kernel
theorem dX5_hold_16 : decode cX5_hold 16 = .ok (.iload_n 3, 1) := by decide +kernel
theorem dX5_hold_17 : decode cX5_hold 17 = .ok (.aload_n 0, 1) := by decide +kernel
theorem dX5_hold_18 : decode cX5_hold 18 = .ok (.getfield 78, 3) := by decide +kernel
theorem dX5_hold_21 : decode cX5_hold 21 = .ok (.if_icmp .ge 88, 3) := by decide +kernel
theorem dX5_hold_24 : decode cX5_hold 24 = .ok (.iconst 1, 1) := by decide +kernel
theorem dX5_hold_25 : decode cX5_hold 25 = .ok (.istore 4, 2) := by decide +kernel
theorem dX5_hold_27 : decode cX5_hold 27 = .ok (.iconst 0, 1) := by decide +kernel
theorem dX5_hold_28 : decode cX5_hold 28 = .ok (.istore 5, 2) := by decide +kernel
theorem dX5_hold_30 : decode cX5_hold 30 = .ok (.iload 5, 2) := by decide +kernel
theorem dX5_hold_32 : decode cX5_hold 32 = .ok (.iconst 5, 1) := by decide +kernel
theorem dX5_hold_33 : decode cX5_hold 33 = .ok (.if_icmp .ge 70, 3) := by decide +kernel
theorem dX5_hold_36 : decode cX5_hold 36 = .ok (.aload_n 0, 1) := by decide +kernel
theorem dX5_hold_37 : decode cX5_hold 37 = .ok (.getfield 19, 3) := by decide +kernel
theorem dX5_hold_40 : decode cX5_hold 40 = .ok (.iconst 5, 1) := by decide +kernel
theorem dX5_hold_41 : decode cX5_hold 41 = .ok (.iload_n 3, 1) := by decide +kernel
theorem dX5_hold_42 : decode cX5_hold 42 = .ok (.imul, 1) := by decide +kernel
theorem dX5_hold_43 : decode cX5_hold 43 = .ok (.iload 5, 2) := by decide +kernel
theorem dX5_hold_45 : decode cX5_hold 45 = .ok (.iadd, 1) := by decide +kernel
theorem dX5_hold_46 : decode cX5_hold 46 = .ok (.iaload, 1) := by decide +kernel
theorem dX5_hold_47 : decode cX5_hold 47 = .ok (.istore 6, 2) := by decide +kernel
theorem dX5_hold_49 : decode cX5_hold 49 = .ok (.iload 6, 2) := by decide +kernel
theorem dX5_hold_51 : decode cX5_hold 51 = .ok (.ifCond .le 46, 3) := by decide +kernel
theorem dX5_hold_54 : decode cX5_hold 54 = .ok (.aload_n 0, 1) := by decide +kernel
theorem dX5_hold_55 : decode cX5_hold 55 = .ok (.getfield 9, 3) := by decide +kernel
theorem dX5_hold_58 : decode cX5_hold 58 = .ok (.iload_n 3, 1) := by decide +kernel
theorem dX5_hold_59 : decode cX5_hold 59 = .ok (.iaload, 1) := by decide +kernel
theorem dX5_hold_60 : decode cX5_hold 60 = .ok (.iconst 3, 1) := by decide +kernel
theorem dX5_hold_61 : decode cX5_hold 61 = .ok (.if_icmp .ne 12, 3) := by decide +kernel
theorem dX5_hold_64 : decode cX5_hold 64 = .ok (.iload 4, 2) := by decide +kernel
theorem dX5_hold_66 : decode cX5_hold 66 = .ok (.ifCond .eq 7, 3) := by decide +kernel
theorem dX5_hold_69 : decode cX5_hold 69 = .ok (.iconst 2, 1) := by decide +kernel
theorem dX5_hold_70 : decode cX5_hold 70 = .ok (.goto 4, 3) := by decide +kernel
theorem dX5_hold_73 : decode cX5_hold 73 = .ok (.iconst 1, 1) := by decide +kernel
theorem dX5_hold_74 : decode cX5_hold 74 = .ok (.istore 7, 2) := by decide +kernel
theorem dX5_hold_76 : decode cX5_hold 76 = .ok (.iload_n 2, 1) := by decide +kernel
theorem dX5_hold_77 : decode cX5_hold 77 = .ok (.iconst 0, 1) := by decide +kernel
theorem dX5_hold_78 : decode cX5_hold 78 = .ok (.aload_n 0, 1) := by decide +kernel
theorem dX5_hold_79 : decode cX5_hold 79 = .ok (.iload_n 3, 1) := by decide +kernel
theorem dX5_hold_80 : decode cX5_hold 80 = .ok (.iload 7, 2) := by decide +kernel
theorem dX5_hold_82 : decode cX5_hold 82 = .ok (.iload_n 1, 1) := by decide +kernel
theorem dX5_hold_83 : decode cX5_hold 83 = .ok (.invokevirtual 208, 3) := by decide +kernel
theorem dX5_hold_86 : decode cX5_hold 86 = .ok (.iload 6, 2) := by decide +kernel
theorem dX5_hold_88 : decode cX5_hold 88 = .ok (.isub, 1) := by decide +kernel
theorem dX5_hold_89 : decode cX5_hold 89 = .ok (.invokestatic 145, 3) := by decide +kernel
theorem dX5_hold_92 : decode cX5_hold 92 = .ok (.iadd, 1) := by decide +kernel
theorem dX5_hold_93 : decode cX5_hold 93 = .ok (.istore_n 2, 1) := by decide +kernel
theorem dX5_hold_94 : decode cX5_hold 94 = .ok (.iconst 0, 1) := by decide +kernel
theorem dX5_hold_95 : decode cX5_hold 95 = .ok (.istore 4, 2) := by decide +kernel
theorem dX5_hold_97 : decode cX5_hold 97 = .ok (.iinc 5 1, 3) := by decide +kernel
theorem dX5_hold_100 : decode cX5_hold 100 = .ok (.goto (-70), 3) := by decide +kernel
theorem dX5_hold_103 : decode cX5_hold 103 = .ok (.iinc 3 1, 3) := by decide +kernel
theorem dX5_hold_106 : decode cX5_hold 106 = .ok (.goto (-90), 3) := by decide +kernel
theorem dX5_hold_109 : decode cX5_hold 109 = .ok (.iload_n 2, 1) := by decide +kernel
theorem dX5_hold_110 : decode cX5_hold 110 = .ok (.ireturn, 1) := by decide +kernel
theorem dX5_tells_0 : decode cX5_tells 0 = .ok (.iconst 1, 1) := by decide +kernel
theorem dX5_tells_1 : decode cX5_tells 1 = .ok (.istore_n 2, 1) := by decide +kernel
theorem dX5_tells_2 : decode cX5_tells 2 = .ok (.iconst 0, 1) := by decide +kernel
theorem dX5_tells_3 : decode cX5_tells 3 = .ok (.istore_n 3, 1) := by decide +kernel
theorem dX5_tells_4 : decode cX5_tells 4 = .ok (.iload_n 3, 1) := by decide +kernel
theorem dX5_tells_5 : decode cX5_tells 5 = .ok (.aload_n 0, 1) := by decide +kernel
theorem dX5_tells_6 : decode cX5_tells 6 = .ok (.getfield 78, 3) := by decide +kernel
theorem dX5_tells_9 : decode cX5_tells 9 = .ok (.if_icmp .ge 57, 3) := by decide +kernel
theorem dX5_tells_12 : decode cX5_tells 12 = .ok (.iload_n 3, 1) := by decide +kernel
theorem dX5_tells_13 : decode cX5_tells 13 = .ok (.iconst 1, 1) := by decide +kernel
theorem dX5_tells_14 : decode cX5_tells 14 = .ok (.iadd, 1) := by decide +kernel
theorem dX5_tells_15 : decode cX5_tells 15 = .ok (.istore 4, 2) := by decide +kernel
theorem dX5_tells_17 : decode cX5_tells 17 = .ok (.iload 4, 2) := by decide +kernel
theorem dX5_tells_19 : decode cX5_tells 19 = .ok (.aload_n 0, 1) := by decide +kernel
theorem dX5_tells_20 : decode cX5_tells 20 = .ok (.getfield 78, 3) := by decide +kernel
theorem dX5_tells_23 : decode cX5_tells 23 = .ok (.if_icmp .ge 37, 3) := by decide +kernel
theorem dX5_tells_26 : decode cX5_tells 26 = .ok (.iload_n 2, 1) := by decide +kernel
theorem dX5_tells_27 : decode cX5_tells 27 = .ok (.ifCond .eq 25, 3) := by decide +kernel
theorem dX5_tells_30 : decode cX5_tells 30 = .ok (.aload_n 0, 1) := by decide +kernel
theorem dX5_tells_31 : decode cX5_tells 31 = .ok (.iload_n 3, 1) := by decide +kernel
theorem dX5_tells_32 : decode cX5_tells 32 = .ok (.invokevirtual 85, 3) := by decide +kernel
theorem dX5_tells_35 : decode cX5_tells 35 = .ok (.iload_n 1, 1) := by decide +kernel
theorem dX5_tells_36 : decode cX5_tells 36 = .ok (.iand, 1) := by decide +kernel
theorem dX5_tells_37 : decode cX5_tells 37 = .ok (.aload_n 0, 1) := by decide +kernel
theorem dX5_tells_38 : decode cX5_tells 38 = .ok (.iload 4, 2) := by decide +kernel
theorem dX5_tells_40 : decode cX5_tells 40 = .ok (.invokevirtual 85, 3) := by decide +kernel
theorem dX5_tells_43 : decode cX5_tells 43 = .ok (.iload_n 1, 1) := by decide +kernel
theorem dX5_tells_44 : decode cX5_tells 44 = .ok (.iand, 1) := by decide +kernel
theorem dX5_tells_45 : decode cX5_tells 45 = .ok (.if_icmp .eq 7, 3) := by decide +kernel
theorem dX5_tells_48 : decode cX5_tells 48 = .ok (.iconst 1, 1) := by decide +kernel
theorem dX5_tells_49 : decode cX5_tells 49 = .ok (.goto 4, 3) := by decide +kernel
theorem dX5_tells_52 : decode cX5_tells 52 = .ok (.iconst 0, 1) := by decide +kernel
theorem dX5_tells_53 : decode cX5_tells 53 = .ok (.istore_n 2, 1) := by decide +kernel
theorem dX5_tells_54 : decode cX5_tells 54 = .ok (.iinc 4 1, 3) := by decide +kernel
theorem dX5_tells_57 : decode cX5_tells 57 = .ok (.goto (-40), 3) := by decide +kernel
theorem dX5_tells_60 : decode cX5_tells 60 = .ok (.iinc 3 1, 3) := by decide +kernel
theorem dX5_tells_63 : decode cX5_tells 63 = .ok (.goto (-59), 3) := by decide +kernel
theorem dX5_tells_66 : decode cX5_tells 66 = .ok (.iload_n 2, 1) := by decide +kernel
theorem dX5_tells_67 : decode cX5_tells 67 = .ok (.ireturn, 1) := by decide +kernel
theorem dX5_tell_0 : decode cX5_tell 0 = .ok (.iload_n 1, 1) := by decide +kernel
theorem dX5_tell_1 : decode cX5_tell 1 = .ok (.iconst 0, 1) := by decide +kernel
theorem dX5_tell_2 : decode cX5_tell 2 = .ok (.iconst 1, 1) := by decide +kernel
theorem dX5_tell_3 : decode cX5_tell 3 = .ok (.invokestatic 81, 3) := by decide +kernel
theorem dX5_tell_6 : decode cX5_tell 6 = .ok (.ifCond .ne 5, 3) := by decide +kernel
theorem dX5_tell_9 : decode cX5_tell 9 = .ok (.iconst (-1), 1) := by decide +kernel
theorem dX5_tell_10 : decode cX5_tell 10 = .ok (.ireturn, 1) := by decide +kernel
theorem dX5_tell_11 : decode cX5_tell 11 = .ok (.bipush (-4), 2) := by decide +kernel
theorem dX5_tell_13 : decode cX5_tell 13 = .ok (.istore_n 2, 1) := by decide +kernel
theorem dX5_tell_14 : decode cX5_tell 14 = .ok (.ldc 212, 2) := by decide +kernel
theorem dX5_tell_16 : decode cX5_tell 16 = .ok (.istore_n 3, 1) := by decide +kernel
theorem dX5_tell_17 : decode cX5_tell 17 = .ok (.iconst 0, 1) := by decide +kernel
theorem dX5_tell_18 : decode cX5_tell 18 = .ok (.istore 4, 2) := by decide +kernel
theorem dX5_tell_20 : decode cX5_tell 20 = .ok (.iload 4, 2) := by decide +kernel
theorem dX5_tell_22 : decode cX5_tell 22 = .ok (.bipush 32, 2) := by decide +kernel
theorem dX5_tell_24 : decode cX5_tell 24 = .ok (.if_icmp .ge 36, 3) := by decide +kernel
theorem dX5_tell_27 : decode cX5_tell 27 = .ok (.iload 4, 2) := by decide +kernel
theorem dX5_tell_29 : decode cX5_tell 29 = .ok (.invokestatic 213, 3) := by decide +kernel
theorem dX5_tell_32 : decode cX5_tell 32 = .ok (.iload_n 3, 1) := by decide +kernel
theorem dX5_tell_33 : decode cX5_tell 33 = .ok (.if_icmp .ge 21, 3) := by decide +kernel
theorem dX5_tell_36 : decode cX5_tell 36 = .ok (.aload_n 0, 1) := by decide +kernel
theorem dX5_tell_37 : decode cX5_tell 37 = .ok (.iload 4, 2) := by decide +kernel
theorem dX5_tell_39 : decode cX5_tell 39 = .ok (.invokevirtual 216, 3) := by decide +kernel
theorem dX5_tell_42 : decode cX5_tell 42 = .ok (.ifCond .eq 12, 3) := by decide +kernel
theorem dX5_tell_45 : decode cX5_tell 45 = .ok (.iload 4, 2) := by decide +kernel
theorem dX5_tell_47 : decode cX5_tell 47 = .ok (.istore_n 2, 1) := by decide +kernel
theorem dX5_tell_48 : decode cX5_tell 48 = .ok (.iload 4, 2) := by decide +kernel
theorem dX5_tell_50 : decode cX5_tell 50 = .ok (.invokestatic 213, 3) := by decide +kernel
theorem dX5_tell_53 : decode cX5_tell 53 = .ok (.istore_n 3, 1) := by decide +kernel
theorem dX5_tell_54 : decode cX5_tell 54 = .ok (.iinc 4 1, 3) := by decide +kernel
theorem dX5_tell_57 : decode cX5_tell 57 = .ok (.goto (-37), 3) := by decide +kernel
theorem dX5_tell_60 : decode cX5_tell 60 = .ok (.iload_n 2, 1) := by decide +kernel
theorem dX5_tell_61 : decode cX5_tell 61 = .ok (.bipush (-4), 2) := by decide +kernel
theorem dX5_tell_63 : decode cX5_tell 63 = .ok (.if_icmp .eq 8, 3) := by decide +kernel
theorem dX5_tell_66 : decode cX5_tell 66 = .ok (.iload_n 1, 1) := by decide +kernel
theorem dX5_tell_67 : decode cX5_tell 67 = .ok (.iconst 1, 1) := by decide +kernel
theorem dX5_tell_68 : decode cX5_tell 68 = .ok (.if_icmp .ne 7, 3) := by decide +kernel
theorem dX5_tell_71 : decode cX5_tell 71 = .ok (.iload_n 2, 1) := by decide +kernel
theorem dX5_tell_72 : decode cX5_tell 72 = .ok (.goto 4, 3) := by decide +kernel
theorem dX5_tell_75 : decode cX5_tell 75 = .ok (.iload_n 3, 1) := by decide +kernel
theorem dX5_tell_76 : decode cX5_tell 76 = .ok (.ireturn, 1) := by decide +kernel
theorem dX5_adds_0 : decode cX5_adds 0 = .ok (.aload_n 0, 1) := by decide +kernel
theorem dX5_adds_1 : decode cX5_adds 1 = .ok (.getfield 58, 3) := by decide +kernel
theorem dX5_adds_4 : decode cX5_adds 4 = .ok (.iconst 0, 1) := by decide +kernel
theorem dX5_adds_5 : decode cX5_adds 5 = .ok (.bipush (-4), 2) := by decide +kernel
theorem dX5_adds_7 : decode cX5_adds 7 = .ok (.iastore, 1) := by decide +kernel
theorem dX5_adds_8 : decode cX5_adds 8 = .ok (.aload_n 0, 1) := by decide +kernel
theorem dX5_adds_9 : decode cX5_adds 9 = .ok (.getfield 58, 3) := by decide +kernel
theorem dX5_adds_12 : decode cX5_adds 12 = .ok (.iconst 1, 1) := by decide +kernel
theorem dX5_adds_13 : decode cX5_adds 13 = .ok (.bipush (-4), 2) := by decide +kernel
theorem dX5_adds_15 : decode cX5_adds 15 = .ok (.iastore, 1) := by decide +kernel
theorem dX5_adds_16 : decode cX5_adds 16 = .ok (.aload_n 0, 1) := by decide +kernel
theorem dX5_adds_17 : decode cX5_adds 17 = .ok (.invokevirtual 196, 3) := by decide +kernel
theorem dX5_adds_20 : decode cX5_adds 20 = .ok (.ifCond .ne 5, 3) := by decide +kernel
theorem dX5_adds_23 : decode cX5_adds 23 = .ok (.iconst 0, 1) := by decide +kernel
theorem dX5_adds_24 : decode cX5_adds 24 = .ok (.ireturn, 1) := by decide +kernel
theorem dX5_adds_25 : decode cX5_adds 25 = .ok (.iconst 3, 1) := by decide +kernel
theorem dX5_adds_26 : decode cX5_adds 26 = .ok (.istore_n 1, 1) := by decide +kernel
theorem dX5_adds_27 : decode cX5_adds 27 = .ok (.aload_n 0, 1) := by decide +kernel
theorem dX5_adds_28 : decode cX5_adds 28 = .ok (.invokevirtual 202, 3) := by decide +kernel
theorem dX5_adds_31 : decode cX5_adds 31 = .ok (.iconst 0, 1) := by decide +kernel
theorem dX5_adds_32 : decode cX5_adds 32 = .ok (.istore_n 2, 1) := by decide +kernel
theorem dX5_adds_33 : decode cX5_adds 33 = .ok (.iload_n 2, 1) := by decide +kernel
theorem dX5_adds_34 : decode cX5_adds 34 = .ok (.bipush 10, 2) := by decide +kernel
theorem dX5_adds_36 : decode cX5_adds 36 = .ok (.aload_n 0, 1) := by decide +kernel
theorem dX5_adds_37 : decode cX5_adds 37 = .ok (.getfield 78, 3) := by decide +kernel
theorem dX5_adds_40 : decode cX5_adds 40 = .ok (.imul, 1) := by decide +kernel
theorem dX5_adds_41 : decode cX5_adds 41 = .ok (.if_icmp .ge 188, 3) := by decide +kernel
theorem dX5_adds_44 : decode cX5_adds 44 = .ok (.iload_n 2, 1) := by decide +kernel
theorem dX5_adds_45 : decode cX5_adds 45 = .ok (.bipush 10, 2) := by decide +kernel
theorem dX5_adds_47 : decode cX5_adds 47 = .ok (.irem, 1) := by decide +kernel
theorem dX5_adds_48 : decode cX5_adds 48 = .ok (.iconst 5, 1) := by decide +kernel
theorem dX5_adds_49 : decode cX5_adds 49 = .ok (.if_icmp .ge 174, 3) := by decide +kernel
theorem dX5_adds_52 : decode cX5_adds 52 = .ok (.aload_n 0, 1) := by decide +kernel
theorem dX5_adds_53 : decode cX5_adds 53 = .ok (.iload_n 2, 1) := by decide +kernel
theorem dX5_adds_54 : decode cX5_adds 54 = .ok (.bipush 10, 2) := by decide +kernel
theorem dX5_adds_56 : decode cX5_adds 56 = .ok (.idiv, 1) := by decide +kernel
theorem dX5_adds_57 : decode cX5_adds 57 = .ok (.iload_n 2, 1) := by decide +kernel
theorem dX5_adds_58 : decode cX5_adds 58 = .ok (.bipush 10, 2) := by decide +kernel
theorem dX5_adds_60 : decode cX5_adds 60 = .ok (.irem, 1) := by decide +kernel
theorem dX5_adds_61 : decode cX5_adds 61 = .ok (.invokevirtual 177, 3) := by decide +kernel
theorem dX5_adds_64 : decode cX5_adds 64 = .ok (.ifCond .eq 159, 3) := by decide +kernel
theorem dX5_adds_67 : decode cX5_adds 67 = .ok (.aload_n 0, 1) := by decide +kernel
theorem dX5_adds_68 : decode cX5_adds 68 = .ok (.iload_n 2, 1) := by decide +kernel
theorem dX5_adds_69 : decode cX5_adds 69 = .ok (.bipush 10, 2) := by decide +kernel
theorem dX5_adds_71 : decode cX5_adds 71 = .ok (.idiv, 1) := by decide +kernel
theorem dX5_adds_72 : decode cX5_adds 72 = .ok (.iload_n 2, 1) := by decide +kernel
theorem dX5_adds_73 : decode cX5_adds 73 = .ok (.bipush 10, 2) := by decide +kernel
theorem dX5_adds_75 : decode cX5_adds 75 = .ok (.irem, 1) := by decide +kernel
theorem dX5_adds_76 : decode cX5_adds 76 = .ok (.iconst 1, 1) := by decide +kernel
theorem dX5_adds_77 : decode cX5_adds 77 = .ok (.invokevirtual 183, 3) := by decide +kernel
theorem dX5_adds_80 : decode cX5_adds 80 = .ok (.iload_n 1, 1) := by decide +kernel
theorem dX5_adds_81 : decode cX5_adds 81 = .ok (.iconst 1, 1) := by decide +kernel
theorem dX5_adds_82 : decode cX5_adds 82 = .ok (.if_icmp .le 27, 3) := by decide +kernel
theorem dX5_adds_85 : decode cX5_adds 85 = .ok (.aload_n 0, 1) := by decide +kernel
theorem dX5_adds_86 : decode cX5_adds 86 = .ok (.invokevirtual 196, 3) := by decide +kernel
theorem dX5_adds_89 : decode cX5_adds 89 = .ok (.ifCond .ne 20, 3) := by decide +kernel
theorem dX5_adds_92 : decode cX5_adds 92 = .ok (.iconst 1, 1) := by decide +kernel
theorem dX5_adds_93 : decode cX5_adds 93 = .ok (.istore_n 1, 1) := by decide +kernel
theorem dX5_adds_94 : decode cX5_adds 94 = .ok (.aload_n 0, 1) := by decide +kernel
theorem dX5_adds_95 : decode cX5_adds 95 = .ok (.getfield 58, 3) := by decide +kernel
theorem dX5_adds_98 : decode cX5_adds 98 = .ok (.iconst 0, 1) := by decide +kernel
theorem dX5_adds_99 : decode cX5_adds 99 = .ok (.iload_n 2, 1) := by decide +kernel
theorem dX5_adds_100 : decode cX5_adds 100 = .ok (.iastore, 1) := by decide +kernel
theorem dX5_adds_101 : decode cX5_adds 101 = .ok (.aload_n 0, 1) := by decide +kernel
theorem dX5_adds_102 : decode cX5_adds 102 = .ok (.getfield 58, 3) := by decide +kernel
theorem dX5_adds_105 : decode cX5_adds 105 = .ok (.iconst 1, 1) := by decide +kernel
theorem dX5_adds_106 : decode cX5_adds 106 = .ok (.bipush (-4), 2) := by decide +kernel
theorem dX5_adds_108 : decode cX5_adds 108 = .ok (.iastore, 1) := by decide +kernel
theorem dX5_adds_109 : decode cX5_adds 109 = .ok (.iload_n 2, 1) := by decide +kernel
theorem dX5_adds_110 : decode cX5_adds 110 = .ok (.iconst 1, 1) := by decide +kernel
theorem dX5_adds_111 : decode cX5_adds 111 = .ok (.iadd, 1) := by decide +kernel
theorem dX5_adds_112 : decode cX5_adds 112 = .ok (.istore_n 3, 1) := by decide +kernel
theorem dX5_adds_113 : decode cX5_adds 113 = .ok (.iload_n 3, 1) := by decide +kernel
theorem dX5_adds_114 : decode cX5_adds 114 = .ok (.bipush 10, 2) := by decide +kernel
theorem dX5_adds_116 : decode cX5_adds 116 = .ok (.aload_n 0, 1) := by decide +kernel
theorem dX5_adds_117 : decode cX5_adds 117 = .ok (.getfield 78, 3) := by decide +kernel
theorem dX5_adds_120 : decode cX5_adds 120 = .ok (.imul, 1) := by decide +kernel
theorem dX5_adds_121 : decode cX5_adds 121 = .ok (.if_icmp .ge 90, 3) := by decide +kernel
theorem dX5_adds_124 : decode cX5_adds 124 = .ok (.iload_n 1, 1) := by decide +kernel
theorem dX5_adds_125 : decode cX5_adds 125 = .ok (.iconst 2, 1) := by decide +kernel
theorem dX5_adds_126 : decode cX5_adds 126 = .ok (.if_icmp .le 85, 3) := by decide +kernel
theorem dX5_adds_129 : decode cX5_adds 129 = .ok (.iload_n 3, 1) := by decide +kernel
theorem dX5_adds_130 : decode cX5_adds 130 = .ok (.bipush 10, 2) := by decide +kernel
theorem dX5_adds_132 : decode cX5_adds 132 = .ok (.irem, 1) := by decide +kernel
theorem dX5_adds_133 : decode cX5_adds 133 = .ok (.iconst 5, 1) := by decide +kernel
theorem dX5_adds_134 : decode cX5_adds 134 = .ok (.if_icmp .ge 71, 3) := by decide +kernel
theorem dX5_adds_137 : decode cX5_adds 137 = .ok (.aload_n 0, 1) := by decide +kernel
theorem dX5_adds_138 : decode cX5_adds 138 = .ok (.iload_n 3, 1) := by decide +kernel
theorem dX5_adds_139 : decode cX5_adds 139 = .ok (.bipush 10, 2) := by decide +kernel
theorem dX5_adds_141 : decode cX5_adds 141 = .ok (.idiv, 1) := by decide +kernel
theorem dX5_adds_142 : decode cX5_adds 142 = .ok (.iload_n 3, 1) := by decide +kernel
theorem dX5_adds_143 : decode cX5_adds 143 = .ok (.bipush 10, 2) := by decide +kernel
theorem dX5_adds_145 : decode cX5_adds 145 = .ok (.irem, 1) := by decide +kernel
theorem dX5_adds_146 : decode cX5_adds 146 = .ok (.invokevirtual 177, 3) := by decide +kernel
theorem dX5_adds_149 : decode cX5_adds 149 = .ok (.ifCond .eq 56, 3) := by decide +kernel
theorem dX5_adds_152 : decode cX5_adds 152 = .ok (.aload_n 0, 1) := by decide +kernel
theorem dX5_adds_153 : decode cX5_adds 153 = .ok (.iload_n 3, 1) := by decide +kernel
theorem dX5_adds_154 : decode cX5_adds 154 = .ok (.bipush 10, 2) := by decide +kernel
theorem dX5_adds_156 : decode cX5_adds 156 = .ok (.idiv, 1) := by decide +kernel
theorem dX5_adds_157 : decode cX5_adds 157 = .ok (.iload_n 3, 1) := by decide +kernel
theorem dX5_adds_158 : decode cX5_adds 158 = .ok (.bipush 10, 2) := by decide +kernel
theorem dX5_adds_160 : decode cX5_adds 160 = .ok (.irem, 1) := by decide +kernel
theorem dX5_adds_161 : decode cX5_adds 161 = .ok (.iconst 1, 1) := by decide +kernel
theorem dX5_adds_162 : decode cX5_adds 162 = .ok (.invokevirtual 183, 3) := by decide +kernel
theorem dX5_adds_165 : decode cX5_adds 165 = .ok (.iload_n 1, 1) := by decide +kernel
theorem dX5_adds_166 : decode cX5_adds 166 = .ok (.iconst 2, 1) := by decide +kernel
theorem dX5_adds_167 : decode cX5_adds 167 = .ok (.if_icmp .le 26, 3) := by decide +kernel
theorem dX5_adds_170 : decode cX5_adds 170 = .ok (.aload_n 0, 1) := by decide +kernel
theorem dX5_adds_171 : decode cX5_adds 171 = .ok (.invokevirtual 196, 3) := by decide +kernel
theorem dX5_adds_174 : decode cX5_adds 174 = .ok (.ifCond .ne 19, 3) := by decide +kernel
theorem dX5_adds_177 : decode cX5_adds 177 = .ok (.iconst 2, 1) := by decide +kernel
theorem dX5_adds_178 : decode cX5_adds 178 = .ok (.istore_n 1, 1) := by decide +kernel
theorem dX5_adds_179 : decode cX5_adds 179 = .ok (.aload_n 0, 1) := by decide +kernel
theorem dX5_adds_180 : decode cX5_adds 180 = .ok (.getfield 58, 3) := by decide +kernel
theorem dX5_adds_183 : decode cX5_adds 183 = .ok (.iconst 0, 1) := by decide +kernel
theorem dX5_adds_184 : decode cX5_adds 184 = .ok (.iload_n 2, 1) := by decide +kernel
theorem dX5_adds_185 : decode cX5_adds 185 = .ok (.iastore, 1) := by decide +kernel
theorem dX5_adds_186 : decode cX5_adds 186 = .ok (.aload_n 0, 1) := by decide +kernel
theorem dX5_adds_187 : decode cX5_adds 187 = .ok (.getfield 58, 3) := by decide +kernel
theorem dX5_adds_190 : decode cX5_adds 190 = .ok (.iconst 1, 1) := by decide +kernel
theorem dX5_adds_191 : decode cX5_adds 191 = .ok (.iload_n 3, 1) := by decide +kernel
theorem dX5_adds_192 : decode cX5_adds 192 = .ok (.iastore, 1) := by decide +kernel
theorem dX5_adds_193 : decode cX5_adds 193 = .ok (.aload_n 0, 1) := by decide +kernel
theorem dX5_adds_194 : decode cX5_adds 194 = .ok (.iload_n 3, 1) := by decide +kernel
theorem dX5_adds_195 : decode cX5_adds 195 = .ok (.bipush 10, 2) := by decide +kernel
theorem dX5_adds_197 : decode cX5_adds 197 = .ok (.idiv, 1) := by decide +kernel
theorem dX5_adds_198 : decode cX5_adds 198 = .ok (.iload_n 3, 1) := by decide +kernel
theorem dX5_adds_199 : decode cX5_adds 199 = .ok (.bipush 10, 2) := by decide +kernel
theorem dX5_adds_201 : decode cX5_adds 201 = .ok (.irem, 1) := by decide +kernel
theorem dX5_adds_202 : decode cX5_adds 202 = .ok (.invokevirtual 187, 3) := by decide +kernel
theorem dX5_adds_205 : decode cX5_adds 205 = .ok (.iinc 3 1, 3) := by decide +kernel
theorem dX5_adds_208 : decode cX5_adds 208 = .ok (.goto (-95), 3) := by decide +kernel
theorem dX5_adds_211 : decode cX5_adds 211 = .ok (.aload_n 0, 1) := by decide +kernel
theorem dX5_adds_212 : decode cX5_adds 212 = .ok (.iload_n 2, 1) := by decide +kernel
theorem dX5_adds_213 : decode cX5_adds 213 = .ok (.bipush 10, 2) := by decide +kernel
theorem dX5_adds_215 : decode cX5_adds 215 = .ok (.idiv, 1) := by decide +kernel
theorem dX5_adds_216 : decode cX5_adds 216 = .ok (.iload_n 2, 1) := by decide +kernel
theorem dX5_adds_217 : decode cX5_adds 217 = .ok (.bipush 10, 2) := by decide +kernel
theorem dX5_adds_219 : decode cX5_adds 219 = .ok (.irem, 1) := by decide +kernel
theorem dX5_adds_220 : decode cX5_adds 220 = .ok (.invokevirtual 187, 3) := by decide +kernel
theorem dX5_adds_223 : decode cX5_adds 223 = .ok (.iinc 2 1, 3) := by decide +kernel
theorem dX5_adds_226 : decode cX5_adds 226 = .ok (.goto (-193), 3) := by decide +kernel
theorem dX5_adds_229 : decode cX5_adds 229 = .ok (.aload_n 0, 1) := by decide +kernel
theorem dX5_adds_230 : decode cX5_adds 230 = .ok (.invokevirtual 205, 3) := by decide +kernel
theorem dX5_adds_233 : decode cX5_adds 233 = .ok (.iload_n 1, 1) := by decide +kernel
theorem dX5_adds_234 : decode cX5_adds 234 = .ok (.iconst 3, 1) := by decide +kernel
theorem dX5_adds_235 : decode cX5_adds 235 = .ok (.if_icmp .ge 7, 3) := by decide +kernel
theorem dX5_adds_238 : decode cX5_adds 238 = .ok (.iload_n 1, 1) := by decide +kernel
theorem dX5_adds_239 : decode cX5_adds 239 = .ok (.goto 5, 3) := by decide +kernel
theorem dX5_adds_242 : decode cX5_adds 242 = .ok (.bipush (-4), 2) := by decide +kernel
theorem dX5_adds_244 : decode cX5_adds 244 = .ok (.ireturn, 1) := by decide +kernel
theorem dX5_add_0 : decode cX5_add 0 = .ok (.iload_n 1, 1) := by decide +kernel
theorem dX5_add_1 : decode cX5_add 1 = .ok (.iconst (-1), 1) := by decide +kernel
theorem dX5_add_2 : decode cX5_add 2 = .ok (.iconst 1, 1) := by decide +kernel
theorem dX5_add_3 : decode cX5_add 3 = .ok (.invokestatic 81, 3) := by decide +kernel
theorem dX5_add_6 : decode cX5_add 6 = .ok (.ifCond .ne 5, 3) := by decide +kernel
theorem dX5_add_9 : decode cX5_add 9 = .ok (.iconst (-1), 1) := by decide +kernel
theorem dX5_add_10 : decode cX5_add 10 = .ok (.ireturn, 1) := by decide +kernel
theorem dX5_add_11 : decode cX5_add 11 = .ok (.aload_n 0, 1) := by decide +kernel
theorem dX5_add_12 : decode cX5_add 12 = .ok (.invokevirtual 219, 3) := by decide +kernel
theorem dX5_add_15 : decode cX5_add 15 = .ok (.istore_n 2, 1) := by decide +kernel
theorem dX5_add_16 : decode cX5_add 16 = .ok (.iload_n 2, 1) := by decide +kernel
theorem dX5_add_17 : decode cX5_add 17 = .ok (.bipush (-4), 2) := by decide +kernel
theorem dX5_add_19 : decode cX5_add 19 = .ok (.if_icmp .eq 7, 3) := by decide +kernel
theorem dX5_add_22 : decode cX5_add 22 = .ok (.iload_n 1, 1) := by decide +kernel
theorem dX5_add_23 : decode cX5_add 23 = .ok (.ifCond .ge 7, 3) := by decide +kernel
theorem dX5_add_26 : decode cX5_add 26 = .ok (.iload_n 2, 1) := by decide +kernel
theorem dX5_add_27 : decode cX5_add 27 = .ok (.goto 9, 3) := by decide +kernel
theorem dX5_add_30 : decode cX5_add 30 = .ok (.aload_n 0, 1) := by decide +kernel
theorem dX5_add_31 : decode cX5_add 31 = .ok (.getfield 58, 3) := by decide +kernel
theorem dX5_add_34 : decode cX5_add 34 = .ok (.iload_n 1, 1) := by decide +kernel
theorem dX5_add_35 : decode cX5_add 35 = .ok (.iaload, 1) := by decide +kernel
theorem dX5_add_36 : decode cX5_add 36 = .ok (.ireturn, 1) := by decide +kernel
theorem dX5_say_0 : decode cX5_say 0 = .ok (.iload_n 1, 1) := by decide +kernel
theorem dX5_say_1 : decode cX5_say 1 = .ok (.invokestatic 170, 3) := by decide +kernel
theorem dX5_say_4 : decode cX5_say 4 = .ok (.ifCond .eq 12, 3) := by decide +kernel
theorem dX5_say_7 : decode cX5_say 7 = .ok (.iload_n 2, 1) := by decide +kernel
theorem dX5_say_8 : decode cX5_say 8 = .ok (.iconst 0, 1) := by decide +kernel
theorem dX5_say_9 : decode cX5_say 9 = .ok (.iconst 1, 1) := by decide +kernel
theorem dX5_say_10 : decode cX5_say 10 = .ok (.invokestatic 81, 3) := by decide +kernel
theorem dX5_say_13 : decode cX5_say 13 = .ok (.ifCond .ne 5, 3) := by decide +kernel
theorem dX5_say_16 : decode cX5_say 16 = .ok (.iconst (-1), 1) := by decide +kernel
theorem dX5_say_17 : decode cX5_say 17 = .ok (.ireturn, 1) := by decide +kernel
theorem dX5_say_18 : decode cX5_say 18 = .ok (.aload_n 0, 1) := by decide +kernel
theorem dX5_say_19 : decode cX5_say 19 = .ok (.getfield 136, 3) := by decide +kernel
theorem dX5_say_22 : decode cX5_say 22 = .ok (.bipush 6, 2) := by decide +kernel
theorem dX5_say_24 : decode cX5_say 24 = .ok (.if_icmp .ne 6, 3) := by decide +kernel
theorem dX5_say_27 : decode cX5_say 27 = .ok (.bipush (-3), 2) := by decide +kernel
theorem dX5_say_29 : decode cX5_say 29 = .ok (.ireturn, 1) := by decide +kernel
theorem dX5_say_30 : decode cX5_say 30 = .ok (.aload_n 0, 1) := by decide +kernel
theorem dX5_say_31 : decode cX5_say 31 = .ok (.getfield 28, 3) := by decide +kernel
theorem dX5_say_34 : decode cX5_say 34 = .ok (.aload_n 0, 1) := by decide +kernel
theorem dX5_say_35 : decode cX5_say 35 = .ok (.getfield 136, 3) := by decide +kernel
theorem dX5_say_38 : decode cX5_say 38 = .ok (.iload_n 1, 1) := by decide +kernel
theorem dX5_say_39 : decode cX5_say 39 = .ok (.iastore, 1) := by decide +kernel
theorem dX5_say_40 : decode cX5_say 40 = .ok (.aload_n 0, 1) := by decide +kernel
theorem dX5_say_41 : decode cX5_say 41 = .ok (.getfield 31, 3) := by decide +kernel
theorem dX5_say_44 : decode cX5_say 44 = .ok (.aload_n 0, 1) := by decide +kernel
theorem dX5_say_45 : decode cX5_say 45 = .ok (.getfield 136, 3) := by decide +kernel
theorem dX5_say_48 : decode cX5_say 48 = .ok (.iload_n 2, 1) := by decide +kernel
theorem dX5_say_49 : decode cX5_say 49 = .ok (.iastore, 1) := by decide +kernel
theorem dX5_say_50 : decode cX5_say 50 = .ok (.aload_n 0, 1) := by decide +kernel
theorem dX5_say_51 : decode cX5_say 51 = .ok (.dup, 1) := by decide +kernel
theorem dX5_say_52 : decode cX5_say 52 = .ok (.getfield 136, 3) := by decide +kernel
theorem dX5_say_55 : decode cX5_say 55 = .ok (.iconst 1, 1) := by decide +kernel
theorem dX5_say_56 : decode cX5_say 56 = .ok (.iadd, 1) := by decide +kernel
theorem dX5_say_57 : decode cX5_say 57 = .ok (.putfield 136, 3) := by decide +kernel
theorem dX5_say_60 : decode cX5_say 60 = .ok (.aload_n 0, 1) := by decide +kernel
theorem dX5_say_61 : decode cX5_say 61 = .ok (.getfield 136, 3) := by decide +kernel
theorem dX5_say_64 : decode cX5_say 64 = .ok (.ireturn, 1) := by decide +kernel
theorem dX5_forget_0 : decode cX5_forget 0 = .ok (.aload_n 0, 1) := by decide +kernel
theorem dX5_forget_1 : decode cX5_forget 1 = .ok (.getfield 136, 3) := by decide +kernel
theorem dX5_forget_4 : decode cX5_forget 4 = .ok (.istore_n 1, 1) := by decide +kernel
theorem dX5_forget_5 : decode cX5_forget 5 = .ok (.aload_n 0, 1) := by decide +kernel
theorem dX5_forget_6 : decode cX5_forget 6 = .ok (.iconst 0, 1) := by decide +kernel
theorem dX5_forget_7 : decode cX5_forget 7 = .ok (.putfield 136, 3) := by decide +kernel
theorem dX5_forget_10 : decode cX5_forget 10 = .ok (.iload_n 1, 1) := by decide +kernel
theorem dX5_forget_11 : decode cX5_forget 11 = .ok (.ireturn, 1) := by decide +kernel
theorem dX5_those_0 : decode cX5_those 0 = .ok (.iconst 0, 1) := by decide +kernel
theorem dX5_those_1 : decode cX5_those 1 = .ok (.istore_n 1, 1) := by decide +kernel
theorem dX5_those_2 : decode cX5_those 2 = .ok (.iconst 0, 1) := by decide +kernel
theorem dX5_those_3 : decode cX5_those 3 = .ok (.istore_n 2, 1) := by decide +kernel
theorem dX5_those_4 : decode cX5_those 4 = .ok (.iload_n 2, 1) := by decide +kernel
theorem dX5_those_5 : decode cX5_those 5 = .ok (.aload_n 0, 1) := by decide +kernel
theorem dX5_those_6 : decode cX5_those 6 = .ok (.getfield 78, 3) := by decide +kernel
theorem dX5_those_9 : decode cX5_those 9 = .ok (.if_icmp .ge 78, 3) := by decide +kernel
theorem dX5_those_12 : decode cX5_those 12 = .ok (.iconst 1, 1) := by decide +kernel
theorem dX5_those_13 : decode cX5_those 13 = .ok (.istore_n 3, 1) := by decide +kernel
theorem dX5_those_14 : decode cX5_those 14 = .ok (.iconst 0, 1) := by decide +kernel
theorem dX5_those_15 : decode cX5_those 15 = .ok (.istore 4, 2) := by decide +kernel
theorem dX5_those_17 : decode cX5_those 17 = .ok (.iload 4, 2) := by decide +kernel
theorem dX5_those_19 : decode cX5_those 19 = .ok (.aload_n 0, 1) := by decide +kernel
theorem dX5_those_20 : decode cX5_those 20 = .ok (.getfield 136, 3) := by decide +kernel
theorem dX5_those_23 : decode cX5_those 23 = .ok (.if_icmp .ge 44, 3) := by decide +kernel
theorem dX5_those_26 : decode cX5_those 26 = .ok (.iload_n 3, 1) := by decide +kernel
theorem dX5_those_27 : decode cX5_those 27 = .ok (.ifCond .eq 32, 3) := by decide +kernel
theorem dX5_those_30 : decode cX5_those 30 = .ok (.aload_n 0, 1) := by decide +kernel
theorem dX5_those_31 : decode cX5_those 31 = .ok (.iload_n 2, 1) := by decide +kernel
theorem dX5_those_32 : decode cX5_those 32 = .ok (.invokevirtual 85, 3) := by decide +kernel
theorem dX5_those_35 : decode cX5_those 35 = .ok (.aload_n 0, 1) := by decide +kernel
theorem dX5_those_36 : decode cX5_those 36 = .ok (.getfield 28, 3) := by decide +kernel
theorem dX5_those_39 : decode cX5_those 39 = .ok (.iload 4, 2) := by decide +kernel
theorem dX5_those_41 : decode cX5_those 41 = .ok (.iaload, 1) := by decide +kernel
theorem dX5_those_42 : decode cX5_those 42 = .ok (.ishr, 1) := by decide +kernel
theorem dX5_those_43 : decode cX5_those 43 = .ok (.iconst 1, 1) := by decide +kernel
theorem dX5_those_44 : decode cX5_those 44 = .ok (.iand, 1) := by decide +kernel
theorem dX5_those_45 : decode cX5_those 45 = .ok (.aload_n 0, 1) := by decide +kernel
theorem dX5_those_46 : decode cX5_those 46 = .ok (.getfield 31, 3) := by decide +kernel
theorem dX5_those_49 : decode cX5_those 49 = .ok (.iload 4, 2) := by decide +kernel
theorem dX5_those_51 : decode cX5_those 51 = .ok (.iaload, 1) := by decide +kernel
theorem dX5_those_52 : decode cX5_those 52 = .ok (.if_icmp .ne 7, 3) := by decide +kernel
theorem dX5_those_55 : decode cX5_those 55 = .ok (.iconst 1, 1) := by decide +kernel
theorem dX5_those_56 : decode cX5_those 56 = .ok (.goto 4, 3) := by decide +kernel
theorem dX5_those_59 : decode cX5_those 59 = .ok (.iconst 0, 1) := by decide +kernel
theorem dX5_those_60 : decode cX5_those 60 = .ok (.istore_n 3, 1) := by decide +kernel
theorem dX5_those_61 : decode cX5_those 61 = .ok (.iinc 4 1, 3) := by decide +kernel
theorem dX5_those_64 : decode cX5_those 64 = .ok (.goto (-47), 3) := by decide +kernel
theorem dX5_those_67 : decode cX5_those 67 = .ok (.iload_n 1, 1) := by decide +kernel
theorem dX5_those_68 : decode cX5_those 68 = .ok (.iload_n 3, 1) := by decide +kernel
theorem dX5_those_69 : decode cX5_those 69 = .ok (.ifCond .eq 9, 3) := by decide +kernel
theorem dX5_those_72 : decode cX5_those 72 = .ok (.iconst 1, 1) := by decide +kernel
theorem dX5_those_73 : decode cX5_those 73 = .ok (.iload_n 2, 1) := by decide +kernel
theorem dX5_those_74 : decode cX5_those 74 = .ok (.ishl, 1) := by decide +kernel
theorem dX5_those_75 : decode cX5_those 75 = .ok (.goto 4, 3) := by decide +kernel
theorem dX5_those_78 : decode cX5_those 78 = .ok (.iconst 0, 1) := by decide +kernel
theorem dX5_those_79 : decode cX5_those 79 = .ok (.ior, 1) := by decide +kernel
theorem dX5_those_80 : decode cX5_those 80 = .ok (.istore_n 1, 1) := by decide +kernel
theorem dX5_those_81 : decode cX5_those 81 = .ok (.iinc 2 1, 3) := by decide +kernel
theorem dX5_those_84 : decode cX5_those 84 = .ok (.goto (-80), 3) := by decide +kernel
theorem dX5_those_87 : decode cX5_those 87 = .ok (.iload_n 1, 1) := by decide +kernel
theorem dX5_those_88 : decode cX5_those 88 = .ok (.ireturn, 1) := by decide +kernel
theorem dX5_which_0 : decode cX5_which 0 = .ok (.aload_n 0, 1) := by decide +kernel
theorem dX5_which_1 : decode cX5_which 1 = .ok (.invokevirtual 222, 3) := by decide +kernel
theorem dX5_which_4 : decode cX5_which 4 = .ok (.ireturn, 1) := by decide +kernel
theorem dX5_ask_0 : decode cX5_ask 0 = .ok (.iload_n 1, 1) := by decide +kernel
theorem dX5_ask_1 : decode cX5_ask 1 = .ok (.iconst 0, 1) := by decide +kernel
theorem dX5_ask_2 : decode cX5_ask 2 = .ok (.iconst 1, 1) := by decide +kernel
theorem dX5_ask_3 : decode cX5_ask 3 = .ok (.invokestatic 81, 3) := by decide +kernel
theorem dX5_ask_6 : decode cX5_ask 6 = .ok (.ifCond .ne 5, 3) := by decide +kernel
theorem dX5_ask_9 : decode cX5_ask 9 = .ok (.iconst (-1), 1) := by decide +kernel
theorem dX5_ask_10 : decode cX5_ask 10 = .ok (.ireturn, 1) := by decide +kernel
theorem dX5_ask_11 : decode cX5_ask 11 = .ok (.aload_n 0, 1) := by decide +kernel
theorem dX5_ask_12 : decode cX5_ask 12 = .ok (.invokevirtual 222, 3) := by decide +kernel
theorem dX5_ask_15 : decode cX5_ask 15 = .ok (.istore_n 2, 1) := by decide +kernel
theorem dX5_ask_16 : decode cX5_ask 16 = .ok (.iconst 0, 1) := by decide +kernel
theorem dX5_ask_17 : decode cX5_ask 17 = .ok (.istore_n 3, 1) := by decide +kernel
theorem dX5_ask_18 : decode cX5_ask 18 = .ok (.iconst 0, 1) := by decide +kernel
theorem dX5_ask_19 : decode cX5_ask 19 = .ok (.istore 4, 2) := by decide +kernel
theorem dX5_ask_21 : decode cX5_ask 21 = .ok (.iload 4, 2) := by decide +kernel
theorem dX5_ask_23 : decode cX5_ask 23 = .ok (.aload_n 0, 1) := by decide +kernel
theorem dX5_ask_24 : decode cX5_ask 24 = .ok (.getfield 136, 3) := by decide +kernel
theorem dX5_ask_27 : decode cX5_ask 27 = .ok (.if_icmp .ge 21, 3) := by decide +kernel
theorem dX5_ask_30 : decode cX5_ask 30 = .ok (.iload_n 3, 1) := by decide +kernel
theorem dX5_ask_31 : decode cX5_ask 31 = .ok (.iconst 1, 1) := by decide +kernel
theorem dX5_ask_32 : decode cX5_ask 32 = .ok (.aload_n 0, 1) := by decide +kernel
theorem dX5_ask_33 : decode cX5_ask 33 = .ok (.getfield 28, 3) := by decide +kernel
theorem dX5_ask_36 : decode cX5_ask 36 = .ok (.iload 4, 2) := by decide +kernel
theorem dX5_ask_38 : decode cX5_ask 38 = .ok (.iaload, 1) := by decide +kernel
theorem dX5_ask_39 : decode cX5_ask 39 = .ok (.ishl, 1) := by decide +kernel
theorem dX5_ask_40 : decode cX5_ask 40 = .ok (.ior, 1) := by decide +kernel
theorem dX5_ask_41 : decode cX5_ask 41 = .ok (.istore_n 3, 1) := by decide +kernel
theorem dX5_ask_42 : decode cX5_ask 42 = .ok (.iinc 4 1, 3) := by decide +kernel
theorem dX5_ask_45 : decode cX5_ask 45 = .ok (.goto (-24), 3) := by decide +kernel
theorem dX5_ask_48 : decode cX5_ask 48 = .ok (.bipush (-4), 2) := by decide +kernel
theorem dX5_ask_50 : decode cX5_ask 50 = .ok (.istore 4, 2) := by decide +kernel
theorem dX5_ask_52 : decode cX5_ask 52 = .ok (.ldc 212, 2) := by decide +kernel
theorem dX5_ask_54 : decode cX5_ask 54 = .ok (.istore 5, 2) := by decide +kernel
theorem dX5_ask_56 : decode cX5_ask 56 = .ok (.iconst 0, 1) := by decide +kernel
theorem dX5_ask_57 : decode cX5_ask 57 = .ok (.istore 6, 2) := by decide +kernel
theorem dX5_ask_59 : decode cX5_ask 59 = .ok (.iload 6, 2) := by decide +kernel
theorem dX5_ask_61 : decode cX5_ask 61 = .ok (.iconst 5, 1) := by decide +kernel
theorem dX5_ask_62 : decode cX5_ask 62 = .ok (.if_icmp .ge 132, 3) := by decide +kernel
theorem dX5_ask_65 : decode cX5_ask 65 = .ok (.iload_n 2, 1) := by decide +kernel
theorem dX5_ask_66 : decode cX5_ask 66 = .ok (.ifCond .eq 128, 3) := by decide +kernel
theorem dX5_ask_69 : decode cX5_ask 69 = .ok (.iconst 0, 1) := by decide +kernel
theorem dX5_ask_70 : decode cX5_ask 70 = .ok (.istore 7, 2) := by decide +kernel
theorem dX5_ask_72 : decode cX5_ask 72 = .ok (.iconst 0, 1) := by decide +kernel
theorem dX5_ask_73 : decode cX5_ask 73 = .ok (.istore 8, 2) := by decide +kernel
theorem dX5_ask_75 : decode cX5_ask 75 = .ok (.iload 8, 2) := by decide +kernel
theorem dX5_ask_77 : decode cX5_ask 77 = .ok (.aload_n 0, 1) := by decide +kernel
theorem dX5_ask_78 : decode cX5_ask 78 = .ok (.getfield 78, 3) := by decide +kernel
theorem dX5_ask_81 : decode cX5_ask 81 = .ok (.if_icmp .ge 42, 3) := by decide +kernel
theorem dX5_ask_84 : decode cX5_ask 84 = .ok (.iload 7, 2) := by decide +kernel
theorem dX5_ask_86 : decode cX5_ask 86 = .ok (.iload_n 2, 1) := by decide +kernel
theorem dX5_ask_87 : decode cX5_ask 87 = .ok (.iload 8, 2) := by decide +kernel
theorem dX5_ask_89 : decode cX5_ask 89 = .ok (.invokestatic 149, 3) := by decide +kernel
theorem dX5_ask_92 : decode cX5_ask 92 = .ok (.ifCond .eq 21, 3) := by decide +kernel
theorem dX5_ask_95 : decode cX5_ask 95 = .ok (.aload_n 0, 1) := by decide +kernel
theorem dX5_ask_96 : decode cX5_ask 96 = .ok (.iload 8, 2) := by decide +kernel
theorem dX5_ask_98 : decode cX5_ask 98 = .ok (.invokevirtual 85, 3) := by decide +kernel
theorem dX5_ask_101 : decode cX5_ask 101 = .ok (.iload 6, 2) := by decide +kernel
theorem dX5_ask_103 : decode cX5_ask 103 = .ok (.invokestatic 149, 3) := by decide +kernel
theorem dX5_ask_106 : decode cX5_ask 106 = .ok (.ifCond .eq 7, 3) := by decide +kernel
theorem dX5_ask_109 : decode cX5_ask 109 = .ok (.iconst 1, 1) := by decide +kernel
theorem dX5_ask_110 : decode cX5_ask 110 = .ok (.goto 4, 3) := by decide +kernel
theorem dX5_ask_113 : decode cX5_ask 113 = .ok (.iconst 0, 1) := by decide +kernel
theorem dX5_ask_114 : decode cX5_ask 114 = .ok (.iadd, 1) := by decide +kernel
theorem dX5_ask_115 : decode cX5_ask 115 = .ok (.istore 7, 2) := by decide +kernel
theorem dX5_ask_117 : decode cX5_ask 117 = .ok (.iinc 8 1, 3) := by decide +kernel
theorem dX5_ask_120 : decode cX5_ask 120 = .ok (.goto (-45), 3) := by decide +kernel
theorem dX5_ask_123 : decode cX5_ask 123 = .ok (.iload 7, 2) := by decide +kernel
theorem dX5_ask_125 : decode cX5_ask 125 = .ok (.iload_n 2, 1) := by decide +kernel
theorem dX5_ask_126 : decode cX5_ask 126 = .ok (.invokestatic 213, 3) := by decide +kernel
theorem dX5_ask_129 : decode cX5_ask 129 = .ok (.iload 7, 2) := by decide +kernel
theorem dX5_ask_131 : decode cX5_ask 131 = .ok (.isub, 1) := by decide +kernel
theorem dX5_ask_132 : decode cX5_ask 132 = .ok (.invokestatic 145, 3) := by decide +kernel
theorem dX5_ask_135 : decode cX5_ask 135 = .ok (.istore 8, 2) := by decide +kernel
theorem dX5_ask_137 : decode cX5_ask 137 = .ok (.iload_n 3, 1) := by decide +kernel
theorem dX5_ask_138 : decode cX5_ask 138 = .ok (.iload 6, 2) := by decide +kernel
theorem dX5_ask_140 : decode cX5_ask 140 = .ok (.invokestatic 149, 3) := by decide +kernel
theorem dX5_ask_143 : decode cX5_ask 143 = .ok (.ifCond .ne 14, 3) := by decide +kernel
theorem dX5_ask_146 : decode cX5_ask 146 = .ok (.iload 8, 2) := by decide +kernel
theorem dX5_ask_148 : decode cX5_ask 148 = .ok (.iload 5, 2) := by decide +kernel
theorem dX5_ask_150 : decode cX5_ask 150 = .ok (.if_icmp .ge 7, 3) := by decide +kernel
theorem dX5_ask_153 : decode cX5_ask 153 = .ok (.iconst 1, 1) := by decide +kernel
theorem dX5_ask_154 : decode cX5_ask 154 = .ok (.goto 4, 3) := by decide +kernel
theorem dX5_ask_157 : decode cX5_ask 157 = .ok (.iconst 0, 1) := by decide +kernel
theorem dX5_ask_158 : decode cX5_ask 158 = .ok (.istore 9, 2) := by decide +kernel
theorem dX5_ask_160 : decode cX5_ask 160 = .ok (.iload 9, 2) := by decide +kernel
theorem dX5_ask_162 : decode cX5_ask 162 = .ok (.ifCond .eq 8, 3) := by decide +kernel
theorem dX5_ask_165 : decode cX5_ask 165 = .ok (.iload 6, 2) := by decide +kernel
theorem dX5_ask_167 : decode cX5_ask 167 = .ok (.goto 5, 3) := by decide +kernel
theorem dX5_ask_170 : decode cX5_ask 170 = .ok (.iload 4, 2) := by decide +kernel
theorem dX5_ask_172 : decode cX5_ask 172 = .ok (.istore 4, 2) := by decide +kernel
theorem dX5_ask_174 : decode cX5_ask 174 = .ok (.iload 9, 2) := by decide +kernel
theorem dX5_ask_176 : decode cX5_ask 176 = .ok (.ifCond .eq 8, 3) := by decide +kernel
theorem dX5_ask_179 : decode cX5_ask 179 = .ok (.iload 8, 2) := by decide +kernel
theorem dX5_ask_181 : decode cX5_ask 181 = .ok (.goto 5, 3) := by decide +kernel
theorem dX5_ask_184 : decode cX5_ask 184 = .ok (.iload 5, 2) := by decide +kernel
theorem dX5_ask_186 : decode cX5_ask 186 = .ok (.istore 5, 2) := by decide +kernel
theorem dX5_ask_188 : decode cX5_ask 188 = .ok (.iinc 6 1, 3) := by decide +kernel
theorem dX5_ask_191 : decode cX5_ask 191 = .ok (.goto (-132), 3) := by decide +kernel
theorem dX5_ask_194 : decode cX5_ask 194 = .ok (.iload 4, 2) := by decide +kernel
theorem dX5_ask_196 : decode cX5_ask 196 = .ok (.bipush (-4), 2) := by decide +kernel
theorem dX5_ask_198 : decode cX5_ask 198 = .ok (.if_icmp .eq 7, 3) := by decide +kernel
theorem dX5_ask_201 : decode cX5_ask 201 = .ok (.iload_n 1, 1) := by decide +kernel
theorem dX5_ask_202 : decode cX5_ask 202 = .ok (.ifCond .ne 8, 3) := by decide +kernel
theorem dX5_ask_205 : decode cX5_ask 205 = .ok (.iload 4, 2) := by decide +kernel
theorem dX5_ask_207 : decode cX5_ask 207 = .ok (.goto 5, 3) := by decide +kernel
theorem dX5_ask_210 : decode cX5_ask 210 = .ok (.iload 5, 2) := by decide +kernel
theorem dX5_ask_212 : decode cX5_ask 212 = .ok (.ireturn, 1) := by decide +kernel
theorem dX5_mayHave_0 : decode cX5_mayHave 0 = .ok (.aload_n 0, 1) := by decide +kernel
theorem dX5_mayHave_1 : decode cX5_mayHave 1 = .ok (.iload_n 1, 1) := by decide +kernel
theorem dX5_mayHave_2 : decode cX5_mayHave 2 = .ok (.invokevirtual 85, 3) := by decide +kernel
theorem dX5_mayHave_5 : decode cX5_mayHave 5 = .ok (.aload_n 0, 1) := by decide +kernel
theorem dX5_mayHave_6 : decode cX5_mayHave 6 = .ok (.getfield 25, 3) := by decide +kernel
theorem dX5_mayHave_9 : decode cX5_mayHave 9 = .ok (.iload_n 2, 1) := by decide +kernel
theorem dX5_mayHave_10 : decode cX5_mayHave 10 = .ok (.iaload, 1) := by decide +kernel
theorem dX5_mayHave_11 : decode cX5_mayHave 11 = .ok (.iconst (-1), 1) := by decide +kernel
theorem dX5_mayHave_12 : decode cX5_mayHave 12 = .ok (.ixor, 1) := by decide +kernel
theorem dX5_mayHave_13 : decode cX5_mayHave 13 = .ok (.iand, 1) := by decide +kernel
theorem dX5_mayHave_14 : decode cX5_mayHave 14 = .ok (.ifCond .ne 7, 3) := by decide +kernel
theorem dX5_mayHave_17 : decode cX5_mayHave 17 = .ok (.iconst 1, 1) := by decide +kernel
theorem dX5_mayHave_18 : decode cX5_mayHave 18 = .ok (.goto 4, 3) := by decide +kernel
theorem dX5_mayHave_21 : decode cX5_mayHave 21 = .ok (.iconst 0, 1) := by decide +kernel
theorem dX5_mayHave_22 : decode cX5_mayHave 22 = .ok (.ireturn, 1) := by decide +kernel
theorem dX5_setWays_0 : decode cX5_setWays 0 = .ok (.iconst 1, 1) := by decide +kernel
theorem dX5_setWays_1 : decode cX5_setWays 1 = .ok (.aload_n 0, 1) := by decide +kernel
theorem dX5_setWays_2 : decode cX5_setWays 2 = .ok (.getfield 78, 3) := by decide +kernel
theorem dX5_setWays_5 : decode cX5_setWays 5 = .ok (.ishl, 1) := by decide +kernel
theorem dX5_setWays_6 : decode cX5_setWays 6 = .ok (.iconst 1, 1) := by decide +kernel
theorem dX5_setWays_7 : decode cX5_setWays 7 = .ok (.isub, 1) := by decide +kernel
theorem dX5_setWays_8 : decode cX5_setWays 8 = .ok (.istore_n 1, 1) := by decide +kernel
theorem dX5_setWays_9 : decode cX5_setWays 9 = .ok (.aload_n 0, 1) := by decide +kernel
theorem dX5_setWays_10 : decode cX5_setWays 10 = .ok (.getfield 61, 3) := by decide +kernel
theorem dX5_setWays_13 : decode cX5_setWays 13 = .ok (.iload_n 1, 1) := by decide +kernel
theorem dX5_setWays_14 : decode cX5_setWays 14 = .ok (.iconst 1, 1) := by decide +kernel
theorem dX5_setWays_15 : decode cX5_setWays 15 = .ok (.iastore, 1) := by decide +kernel
theorem dX5_setWays_16 : decode cX5_setWays 16 = .ok (.iload_n 1, 1) := by decide +kernel
theorem dX5_setWays_17 : decode cX5_setWays 17 = .ok (.iconst 1, 1) := by decide +kernel
theorem dX5_setWays_18 : decode cX5_setWays 18 = .ok (.isub, 1) := by decide +kernel
theorem dX5_setWays_19 : decode cX5_setWays 19 = .ok (.istore_n 2, 1) := by decide +kernel
theorem dX5_setWays_20 : decode cX5_setWays 20 = .ok (.iload_n 2, 1) := by decide +kernel
theorem dX5_setWays_21 : decode cX5_setWays 21 = .ok (.ifCond .lt 82, 3) := by decide +kernel
theorem dX5_setWays_24 : decode cX5_setWays 24 = .ok (.iload_n 2, 1) := by decide +kernel
theorem dX5_setWays_25 : decode cX5_setWays 25 = .ok (.invokestatic 213, 3) := by decide +kernel
theorem dX5_setWays_28 : decode cX5_setWays 28 = .ok (.istore_n 3, 1) := by decide +kernel
theorem dX5_setWays_29 : decode cX5_setWays 29 = .ok (.aload_n 0, 1) := by decide +kernel
theorem dX5_setWays_30 : decode cX5_setWays 30 = .ok (.getfield 61, 3) := by decide +kernel
theorem dX5_setWays_33 : decode cX5_setWays 33 = .ok (.iload_n 2, 1) := by decide +kernel
theorem dX5_setWays_34 : decode cX5_setWays 34 = .ok (.iconst 0, 1) := by decide +kernel
theorem dX5_setWays_35 : decode cX5_setWays 35 = .ok (.iastore, 1) := by decide +kernel
theorem dX5_setWays_36 : decode cX5_setWays 36 = .ok (.iconst 0, 1) := by decide +kernel
theorem dX5_setWays_37 : decode cX5_setWays 37 = .ok (.istore 4, 2) := by decide +kernel
theorem dX5_setWays_39 : decode cX5_setWays 39 = .ok (.iload 4, 2) := by decide +kernel
theorem dX5_setWays_41 : decode cX5_setWays 41 = .ok (.aload_n 0, 1) := by decide +kernel
theorem dX5_setWays_42 : decode cX5_setWays 42 = .ok (.getfield 78, 3) := by decide +kernel
theorem dX5_setWays_45 : decode cX5_setWays 45 = .ok (.if_icmp .ge 52, 3) := by decide +kernel
theorem dX5_setWays_48 : decode cX5_setWays 48 = .ok (.aload_n 0, 1) := by decide +kernel
theorem dX5_setWays_49 : decode cX5_setWays 49 = .ok (.getfield 61, 3) := by decide +kernel
theorem dX5_setWays_52 : decode cX5_setWays 52 = .ok (.iload_n 2, 1) := by decide +kernel
theorem dX5_setWays_53 : decode cX5_setWays 53 = .ok (.dup2, 1) := by decide +kernel
theorem dX5_setWays_54 : decode cX5_setWays 54 = .ok (.iaload, 1) := by decide +kernel
theorem dX5_setWays_55 : decode cX5_setWays 55 = .ok (.iload_n 2, 1) := by decide +kernel
theorem dX5_setWays_56 : decode cX5_setWays 56 = .ok (.iload 4, 2) := by decide +kernel
theorem dX5_setWays_58 : decode cX5_setWays 58 = .ok (.invokestatic 149, 3) := by decide +kernel
theorem dX5_setWays_61 : decode cX5_setWays 61 = .ok (.ifCond .ne 27, 3) := by decide +kernel
theorem dX5_setWays_64 : decode cX5_setWays 64 = .ok (.aload_n 0, 1) := by decide +kernel
theorem dX5_setWays_65 : decode cX5_setWays 65 = .ok (.iload_n 3, 1) := by decide +kernel
theorem dX5_setWays_66 : decode cX5_setWays 66 = .ok (.iload 4, 2) := by decide +kernel
theorem dX5_setWays_68 : decode cX5_setWays 68 = .ok (.invokevirtual 225, 3) := by decide +kernel
theorem dX5_setWays_71 : decode cX5_setWays 71 = .ok (.ifCond .eq 17, 3) := by decide +kernel
theorem dX5_setWays_74 : decode cX5_setWays 74 = .ok (.aload_n 0, 1) := by decide +kernel
theorem dX5_setWays_75 : decode cX5_setWays 75 = .ok (.getfield 61, 3) := by decide +kernel
theorem dX5_setWays_78 : decode cX5_setWays 78 = .ok (.iload_n 2, 1) := by decide +kernel
theorem dX5_setWays_79 : decode cX5_setWays 79 = .ok (.iconst 1, 1) := by decide +kernel
theorem dX5_setWays_80 : decode cX5_setWays 80 = .ok (.iload 4, 2) := by decide +kernel
theorem dX5_setWays_82 : decode cX5_setWays 82 = .ok (.ishl, 1) := by decide +kernel
theorem dX5_setWays_83 : decode cX5_setWays 83 = .ok (.ior, 1) := by decide +kernel
theorem dX5_setWays_84 : decode cX5_setWays 84 = .ok (.iaload, 1) := by decide +kernel
theorem dX5_setWays_85 : decode cX5_setWays 85 = .ok (.goto 4, 3) := by decide +kernel
theorem dX5_setWays_88 : decode cX5_setWays 88 = .ok (.iconst 0, 1) := by decide +kernel
theorem dX5_setWays_89 : decode cX5_setWays 89 = .ok (.iadd, 1) := by decide +kernel
theorem dX5_setWays_90 : decode cX5_setWays 90 = .ok (.iastore, 1) := by decide +kernel
theorem dX5_setWays_91 : decode cX5_setWays 91 = .ok (.iinc 4 1, 3) := by decide +kernel
theorem dX5_setWays_94 : decode cX5_setWays 94 = .ok (.goto (-55), 3) := by decide +kernel
theorem dX5_setWays_97 : decode cX5_setWays 97 = .ok (.iinc 2 (-1), 3) := by decide +kernel
theorem dX5_setWays_100 : decode cX5_setWays 100 = .ok (.goto (-80), 3) := by decide +kernel
theorem dX5_setWays_103 : decode cX5_setWays 103 = .ok (.return_, 1) := by decide +kernel
theorem dX5_match_0 : decode cX5_match 0 = .ok (.iload_n 1, 1) := by decide +kernel
theorem dX5_match_1 : decode cX5_match 1 = .ok (.iconst (-1), 1) := by decide +kernel
theorem dX5_match_2 : decode cX5_match 2 = .ok (.aload_n 0, 1) := by decide +kernel
theorem dX5_match_3 : decode cX5_match 3 = .ok (.getfield 78, 3) := by decide +kernel
theorem dX5_match_6 : decode cX5_match 6 = .ok (.iconst 1, 1) := by decide +kernel
theorem dX5_match_7 : decode cX5_match 7 = .ok (.isub, 1) := by decide +kernel
theorem dX5_match_8 : decode cX5_match 8 = .ok (.invokestatic 81, 3) := by decide +kernel
theorem dX5_match_11 : decode cX5_match 11 = .ok (.ifCond .ne 5, 3) := by decide +kernel
theorem dX5_match_14 : decode cX5_match 14 = .ok (.iconst (-1), 1) := by decide +kernel
theorem dX5_match_15 : decode cX5_match 15 = .ok (.ireturn, 1) := by decide +kernel
theorem dX5_match_16 : decode cX5_match 16 = .ok (.aload_n 0, 1) := by decide +kernel
theorem dX5_match_17 : decode cX5_match 17 = .ok (.invokevirtual 228, 3) := by decide +kernel
theorem dX5_match_20 : decode cX5_match 20 = .ok (.iload_n 1, 1) := by decide +kernel
theorem dX5_match_21 : decode cX5_match 21 = .ok (.ifCond .lt 12, 3) := by decide +kernel
theorem dX5_match_24 : decode cX5_match 24 = .ok (.aload_n 0, 1) := by decide +kernel
theorem dX5_match_25 : decode cX5_match 25 = .ok (.getfield 61, 3) := by decide +kernel
theorem dX5_match_28 : decode cX5_match 28 = .ok (.iconst 0, 1) := by decide +kernel
theorem dX5_match_29 : decode cX5_match 29 = .ok (.iaload, 1) := by decide +kernel
theorem dX5_match_30 : decode cX5_match 30 = .ok (.ifCond .ne 19, 3) := by decide +kernel
theorem dX5_match_33 : decode cX5_match 33 = .ok (.iload_n 1, 1) := by decide +kernel
theorem dX5_match_34 : decode cX5_match 34 = .ok (.ifCond .ge 12, 3) := by decide +kernel
theorem dX5_match_37 : decode cX5_match 37 = .ok (.aload_n 0, 1) := by decide +kernel
theorem dX5_match_38 : decode cX5_match 38 = .ok (.getfield 61, 3) := by decide +kernel
theorem dX5_match_41 : decode cX5_match 41 = .ok (.iconst 0, 1) := by decide +kernel
theorem dX5_match_42 : decode cX5_match 42 = .ok (.iaload, 1) := by decide +kernel
theorem dX5_match_43 : decode cX5_match 43 = .ok (.goto 5, 3) := by decide +kernel
theorem dX5_match_46 : decode cX5_match 46 = .ok (.bipush (-4), 2) := by decide +kernel
theorem dX5_match_48 : decode cX5_match 48 = .ok (.ireturn, 1) := by decide +kernel
theorem dX5_match_49 : decode cX5_match 49 = .ok (.iconst 0, 1) := by decide +kernel
theorem dX5_match_50 : decode cX5_match 50 = .ok (.istore_n 2, 1) := by decide +kernel
theorem dX5_match_51 : decode cX5_match 51 = .ok (.iconst 0, 1) := by decide +kernel
theorem dX5_match_52 : decode cX5_match 52 = .ok (.istore_n 3, 1) := by decide +kernel
theorem dX5_match_53 : decode cX5_match 53 = .ok (.iconst 0, 1) := by decide +kernel
theorem dX5_match_54 : decode cX5_match 54 = .ok (.istore 4, 2) := by decide +kernel
theorem dX5_match_56 : decode cX5_match 56 = .ok (.iload 4, 2) := by decide +kernel
theorem dX5_match_58 : decode cX5_match 58 = .ok (.iload_n 1, 1) := by decide +kernel
theorem dX5_match_59 : decode cX5_match 59 = .ok (.if_icmp .gt 54, 3) := by decide +kernel
theorem dX5_match_62 : decode cX5_match 62 = .ok (.iconst 0, 1) := by decide +kernel
theorem dX5_match_63 : decode cX5_match 63 = .ok (.istore_n 3, 1) := by decide +kernel
theorem dX5_match_64 : decode cX5_match 64 = .ok (.iload_n 2, 1) := by decide +kernel
theorem dX5_match_65 : decode cX5_match 65 = .ok (.iload_n 3, 1) := by decide +kernel
theorem dX5_match_66 : decode cX5_match 66 = .ok (.invokestatic 149, 3) := by decide +kernel
theorem dX5_match_69 : decode cX5_match 69 = .ok (.ifCond .ne 26, 3) := by decide +kernel
theorem dX5_match_72 : decode cX5_match 72 = .ok (.aload_n 0, 1) := by decide +kernel
theorem dX5_match_73 : decode cX5_match 73 = .ok (.iload 4, 2) := by decide +kernel
theorem dX5_match_75 : decode cX5_match 75 = .ok (.iload_n 3, 1) := by decide +kernel
theorem dX5_match_76 : decode cX5_match 76 = .ok (.invokevirtual 225, 3) := by decide +kernel
theorem dX5_match_79 : decode cX5_match 79 = .ok (.ifCond .eq 16, 3) := by decide +kernel
theorem dX5_match_82 : decode cX5_match 82 = .ok (.aload_n 0, 1) := by decide +kernel
theorem dX5_match_83 : decode cX5_match 83 = .ok (.getfield 61, 3) := by decide +kernel
theorem dX5_match_86 : decode cX5_match 86 = .ok (.iload_n 2, 1) := by decide +kernel
theorem dX5_match_87 : decode cX5_match 87 = .ok (.iconst 1, 1) := by decide +kernel
theorem dX5_match_88 : decode cX5_match 88 = .ok (.iload_n 3, 1) := by decide +kernel
theorem dX5_match_89 : decode cX5_match 89 = .ok (.ishl, 1) := by decide +kernel
theorem dX5_match_90 : decode cX5_match 90 = .ok (.ior, 1) := by decide +kernel
theorem dX5_match_91 : decode cX5_match 91 = .ok (.iaload, 1) := by decide +kernel
theorem dX5_match_92 : decode cX5_match 92 = .ok (.ifCond .ne 9, 3) := by decide +kernel
theorem dX5_match_95 : decode cX5_match 95 = .ok (.iinc 3 1, 3) := by decide +kernel
theorem dX5_match_98 : decode cX5_match 98 = .ok (.goto (-34), 3) := by decide +kernel
theorem dX5_match_101 : decode cX5_match 101 = .ok (.iload_n 2, 1) := by decide +kernel
theorem dX5_match_102 : decode cX5_match 102 = .ok (.iconst 1, 1) := by decide +kernel
theorem dX5_match_103 : decode cX5_match 103 = .ok (.iload_n 3, 1) := by decide +kernel
theorem dX5_match_104 : decode cX5_match 104 = .ok (.ishl, 1) := by decide +kernel
theorem dX5_match_105 : decode cX5_match 105 = .ok (.ior, 1) := by decide +kernel
theorem dX5_match_106 : decode cX5_match 106 = .ok (.istore_n 2, 1) := by decide +kernel
theorem dX5_match_107 : decode cX5_match 107 = .ok (.iinc 4 1, 3) := by decide +kernel
theorem dX5_match_110 : decode cX5_match 110 = .ok (.goto (-54), 3) := by decide +kernel
theorem dX5_match_113 : decode cX5_match 113 = .ok (.iload_n 3, 1) := by decide +kernel
theorem dX5_match_114 : decode cX5_match 114 = .ok (.ireturn, 1) := by decide +kernel
theorem dX5_common_0 : decode cX5_common 0 = .ok (.lload_n 0, 1) := by decide +kernel
theorem dX5_common_1 : decode cX5_common 1 = .ok (.lstore 4, 2) := by decide +kernel
theorem dX5_common_3 : decode cX5_common 3 = .ok (.lload_n 2, 1) := by decide +kernel
theorem dX5_common_4 : decode cX5_common 4 = .ok (.lstore 6, 2) := by decide +kernel
theorem dX5_common_6 : decode cX5_common 6 = .ok (.lload 6, 2) := by decide +kernel
theorem dX5_common_8 : decode cX5_common 8 = .ok (.lconst 0, 1) := by decide +kernel
theorem dX5_common_9 : decode cX5_common 9 = .ok (.lcmp, 1) := by decide +kernel
theorem dX5_common_10 : decode cX5_common 10 = .ok (.ifCond .eq 21, 3) := by decide +kernel
theorem dX5_common_13 : decode cX5_common 13 = .ok (.lload 4, 2) := by decide +kernel
theorem dX5_common_15 : decode cX5_common 15 = .ok (.lload 6, 2) := by decide +kernel
theorem dX5_common_17 : decode cX5_common 17 = .ok (.lrem, 1) := by decide +kernel
theorem dX5_common_18 : decode cX5_common 18 = .ok (.lstore 8, 2) := by decide +kernel
theorem dX5_common_20 : decode cX5_common 20 = .ok (.lload 6, 2) := by decide +kernel
theorem dX5_common_22 : decode cX5_common 22 = .ok (.lstore 4, 2) := by decide +kernel
theorem dX5_common_24 : decode cX5_common 24 = .ok (.lload 8, 2) := by decide +kernel
theorem dX5_common_26 : decode cX5_common 26 = .ok (.lstore 6, 2) := by decide +kernel
theorem dX5_common_28 : decode cX5_common 28 = .ok (.goto (-22), 3) := by decide +kernel
theorem dX5_common_31 : decode cX5_common 31 = .ok (.lload 4, 2) := by decide +kernel
theorem dX5_common_33 : decode cX5_common 33 = .ok (.lreturn, 1) := by decide +kernel
theorem dX5_storms_0 : decode cX5_storms 0 = .ok (.aload_n 0, 1) := by decide +kernel
theorem dX5_storms_1 : decode cX5_storms 1 = .ok (.iload_n 1, 1) := by decide +kernel
theorem dX5_storms_2 : decode cX5_storms 2 = .ok (.invokevirtual 163, 3) := by decide +kernel
theorem dX5_storms_5 : decode cX5_storms 5 = .ok (.ifCond .eq 41, 3) := by decide +kernel
theorem dX5_storms_8 : decode cX5_storms 8 = .ok (.iload_n 2, 1) := by decide +kernel
theorem dX5_storms_9 : decode cX5_storms 9 = .ok (.invokestatic 170, 3) := by decide +kernel
theorem dX5_storms_12 : decode cX5_storms 12 = .ok (.ifCond .eq 34, 3) := by decide +kernel
theorem dX5_storms_15 : decode cX5_storms 15 = .ok (.iload_n 3, 1) := by decide +kernel
theorem dX5_storms_16 : decode cX5_storms 16 = .ok (.iconst 0, 1) := by decide +kernel
theorem dX5_storms_17 : decode cX5_storms 17 = .ok (.bipush 8, 2) := by decide +kernel
theorem dX5_storms_19 : decode cX5_storms 19 = .ok (.invokestatic 81, 3) := by decide +kernel
theorem dX5_storms_22 : decode cX5_storms 22 = .ok (.ifCond .eq 24, 3) := by decide +kernel
theorem dX5_storms_25 : decode cX5_storms 25 = .ok (.iload 4, 2) := by decide +kernel
theorem dX5_storms_27 : decode cX5_storms 27 = .ok (.iconst 0, 1) := by decide +kernel
theorem dX5_storms_28 : decode cX5_storms 28 = .ok (.bipush 10, 2) := by decide +kernel
theorem dX5_storms_30 : decode cX5_storms 30 = .ok (.invokestatic 81, 3) := by decide +kernel
theorem dX5_storms_33 : decode cX5_storms 33 = .ok (.ifCond .eq 13, 3) := by decide +kernel
theorem dX5_storms_36 : decode cX5_storms 36 = .ok (.iload 5, 2) := by decide +kernel
theorem dX5_storms_38 : decode cX5_storms 38 = .ok (.iconst 0, 1) := by decide +kernel
theorem dX5_storms_39 : decode cX5_storms 39 = .ok (.iconst 1, 1) := by decide +kernel
theorem dX5_storms_40 : decode cX5_storms 40 = .ok (.invokestatic 81, 3) := by decide +kernel
theorem dX5_storms_43 : decode cX5_storms 43 = .ok (.ifCond .ne 5, 3) := by decide +kernel
theorem dX5_storms_46 : decode cX5_storms 46 = .ok (.iconst (-1), 1) := by decide +kernel
theorem dX5_storms_47 : decode cX5_storms 47 = .ok (.ireturn, 1) := by decide +kernel
theorem dX5_storms_48 : decode cX5_storms 48 = .ok (.lconst 0, 1) := by decide +kernel
theorem dX5_storms_49 : decode cX5_storms 49 = .ok (.lstore 6, 2) := by decide +kernel
theorem dX5_storms_51 : decode cX5_storms 51 = .ok (.lconst 1, 1) := by decide +kernel
theorem dX5_storms_52 : decode cX5_storms 52 = .ok (.lstore 8, 2) := by decide +kernel
theorem dX5_storms_54 : decode cX5_storms 54 = .ok (.iconst 0, 1) := by decide +kernel
theorem dX5_storms_55 : decode cX5_storms 55 = .ok (.istore 10, 2) := by decide +kernel
theorem dX5_storms_57 : decode cX5_storms 57 = .ok (.iload 10, 2) := by decide +kernel
theorem dX5_storms_59 : decode cX5_storms 59 = .ok (.iload_n 3, 1) := by decide +kernel
theorem dX5_storms_60 : decode cX5_storms 60 = .ok (.if_icmp .ge 17, 3) := by decide +kernel
theorem dX5_storms_63 : decode cX5_storms 63 = .ok (.lload 8, 2) := by decide +kernel
theorem dX5_storms_65 : decode cX5_storms 65 = .ok (.ldc2_w 231, 3) := by decide +kernel
theorem dX5_storms_68 : decode cX5_storms 68 = .ok (.lmul, 1) := by decide +kernel
theorem dX5_storms_69 : decode cX5_storms 69 = .ok (.lstore 8, 2) := by decide +kernel
theorem dX5_storms_71 : decode cX5_storms 71 = .ok (.iinc 10 1, 3) := by decide +kernel
theorem dX5_storms_74 : decode cX5_storms 74 = .ok (.goto (-17), 3) := by decide +kernel
theorem dX5_storms_77 : decode cX5_storms 77 = .ok (.iconst 0, 1) := by decide +kernel
theorem dX5_storms_78 : decode cX5_storms 78 = .ok (.istore 10, 2) := by decide +kernel
theorem dX5_storms_80 : decode cX5_storms 80 = .ok (.iload 10, 2) := by decide +kernel
theorem dX5_storms_82 : decode cX5_storms 82 = .ok (.iconst 1, 1) := by decide +kernel
theorem dX5_storms_83 : decode cX5_storms 83 = .ok (.iload_n 3, 1) := by decide +kernel
theorem dX5_storms_84 : decode cX5_storms 84 = .ok (.ishl, 1) := by decide +kernel
theorem dX5_storms_85 : decode cX5_storms 85 = .ok (.if_icmp .ge 113, 3) := by decide +kernel
theorem dX5_storms_88 : decode cX5_storms 88 = .ok (.lconst 1, 1) := by decide +kernel
theorem dX5_storms_89 : decode cX5_storms 89 = .ok (.lstore 11, 2) := by decide +kernel
theorem dX5_storms_91 : decode cX5_storms 91 = .ok (.aload_n 0, 1) := by decide +kernel
theorem dX5_storms_92 : decode cX5_storms 92 = .ok (.invokevirtual 202, 3) := by decide +kernel
theorem dX5_storms_95 : decode cX5_storms 95 = .ok (.iconst 0, 1) := by decide +kernel
theorem dX5_storms_96 : decode cX5_storms 96 = .ok (.istore 13, 2) := by decide +kernel
theorem dX5_storms_98 : decode cX5_storms 98 = .ok (.iload 13, 2) := by decide +kernel
theorem dX5_storms_100 : decode cX5_storms 100 = .ok (.iload_n 3, 1) := by decide +kernel
theorem dX5_storms_101 : decode cX5_storms 101 = .ok (.if_icmp .ge 63, 3) := by decide +kernel
theorem dX5_storms_104 : decode cX5_storms 104 = .ok (.lload 11, 2) := by decide +kernel
theorem dX5_storms_106 : decode cX5_storms 106 = .ok (.iload 10, 2) := by decide +kernel
theorem dX5_storms_108 : decode cX5_storms 108 = .ok (.iload 13, 2) := by decide +kernel
theorem dX5_storms_110 : decode cX5_storms 110 = .ok (.invokestatic 149, 3) := by decide +kernel
theorem dX5_storms_113 : decode cX5_storms 113 = .ok (.ifCond .eq 9, 3) := by decide +kernel
theorem dX5_storms_116 : decode cX5_storms 116 = .ok (.iload 4, 2) := by decide +kernel
theorem dX5_storms_118 : decode cX5_storms 118 = .ok (.i2l, 1) := by decide +kernel
theorem dX5_storms_119 : decode cX5_storms 119 = .ok (.goto 9, 3) := by decide +kernel
theorem dX5_storms_122 : decode cX5_storms 122 = .ok (.bipush 10, 2) := by decide +kernel
theorem dX5_storms_124 : decode cX5_storms 124 = .ok (.iload 4, 2) := by decide +kernel
theorem dX5_storms_126 : decode cX5_storms 126 = .ok (.isub, 1) := by decide +kernel
theorem dX5_storms_127 : decode cX5_storms 127 = .ok (.i2l, 1) := by decide +kernel
theorem dX5_storms_128 : decode cX5_storms 128 = .ok (.lmul, 1) := by decide +kernel
theorem dX5_storms_129 : decode cX5_storms 129 = .ok (.lstore 11, 2) := by decide +kernel
theorem dX5_storms_131 : decode cX5_storms 131 = .ok (.aload_n 0, 1) := by decide +kernel
theorem dX5_storms_132 : decode cX5_storms 132 = .ok (.iload 10, 2) := by decide +kernel
theorem dX5_storms_134 : decode cX5_storms 134 = .ok (.iload 13, 2) := by decide +kernel
theorem dX5_storms_136 : decode cX5_storms 136 = .ok (.invokestatic 149, 3) := by decide +kernel
theorem dX5_storms_139 : decode cX5_storms 139 = .ok (.ifCond .eq 8, 3) := by decide +kernel
theorem dX5_storms_142 : decode cX5_storms 142 = .ok (.bipush 20, 2) := by decide +kernel
theorem dX5_storms_144 : decode cX5_storms 144 = .ok (.goto 11, 3) := by decide +kernel
theorem dX5_storms_147 : decode cX5_storms 147 = .ok (.aload_n 0, 1) := by decide +kernel
theorem dX5_storms_148 : decode cX5_storms 148 = .ok (.aload_n 0, 1) := by decide +kernel
theorem dX5_storms_149 : decode cX5_storms 149 = .ok (.getfield 133, 3) := by decide +kernel
theorem dX5_storms_152 : decode cX5_storms 152 = .ok (.invokevirtual 156, 3) := by decide +kernel
theorem dX5_storms_155 : decode cX5_storms 155 = .ok (.invokevirtual 159, 3) := by decide +kernel
theorem dX5_storms_158 : decode cX5_storms 158 = .ok (.iinc 13 1, 3) := by decide +kernel
theorem dX5_storms_161 : decode cX5_storms 161 = .ok (.goto (-63), 3) := by decide +kernel
theorem dX5_storms_164 : decode cX5_storms 164 = .ok (.lload 6, 2) := by decide +kernel
theorem dX5_storms_166 : decode cX5_storms 166 = .ok (.aload_n 0, 1) := by decide +kernel
theorem dX5_storms_167 : decode cX5_storms 167 = .ok (.getfield 19, 3) := by decide +kernel
theorem dX5_storms_170 : decode cX5_storms 170 = .ok (.iconst 5, 1) := by decide +kernel
theorem dX5_storms_171 : decode cX5_storms 171 = .ok (.iload_n 1, 1) := by decide +kernel
theorem dX5_storms_172 : decode cX5_storms 172 = .ok (.imul, 1) := by decide +kernel
theorem dX5_storms_173 : decode cX5_storms 173 = .ok (.iload_n 2, 1) := by decide +kernel
theorem dX5_storms_174 : decode cX5_storms 174 = .ok (.iadd, 1) := by decide +kernel
theorem dX5_storms_175 : decode cX5_storms 175 = .ok (.iaload, 1) := by decide +kernel
theorem dX5_storms_176 : decode cX5_storms 176 = .ok (.ifCond .le 8, 3) := by decide +kernel
theorem dX5_storms_179 : decode cX5_storms 179 = .ok (.lload 11, 2) := by decide +kernel
theorem dX5_storms_181 : decode cX5_storms 181 = .ok (.goto 4, 3) := by decide +kernel
theorem dX5_storms_184 : decode cX5_storms 184 = .ok (.lconst 0, 1) := by decide +kernel
theorem dX5_storms_185 : decode cX5_storms 185 = .ok (.ladd, 1) := by decide +kernel
theorem dX5_storms_186 : decode cX5_storms 186 = .ok (.lstore 6, 2) := by decide +kernel
theorem dX5_storms_188 : decode cX5_storms 188 = .ok (.aload_n 0, 1) := by decide +kernel
theorem dX5_storms_189 : decode cX5_storms 189 = .ok (.invokevirtual 205, 3) := by decide +kernel
theorem dX5_storms_192 : decode cX5_storms 192 = .ok (.iinc 10 1, 3) := by decide +kernel
theorem dX5_storms_195 : decode cX5_storms 195 = .ok (.goto (-115), 3) := by decide +kernel
theorem dX5_storms_198 : decode cX5_storms 198 = .ok (.lload 6, 2) := by decide +kernel
theorem dX5_storms_200 : decode cX5_storms 200 = .ok (.lload 8, 2) := by decide +kernel
theorem dX5_storms_202 : decode cX5_storms 202 = .ok (.invokestatic 233, 3) := by decide +kernel
theorem dX5_storms_205 : decode cX5_storms 205 = .ok (.lstore 10, 2) := by decide +kernel
theorem dX5_storms_207 : decode cX5_storms 207 = .ok (.iload 5, 2) := by decide +kernel
theorem dX5_storms_209 : decode cX5_storms 209 = .ok (.ifCond .ne 11, 3) := by decide +kernel
theorem dX5_storms_212 : decode cX5_storms 212 = .ok (.lload 6, 2) := by decide +kernel
theorem dX5_storms_214 : decode cX5_storms 214 = .ok (.lload 10, 2) := by decide +kernel
theorem dX5_storms_216 : decode cX5_storms 216 = .ok (.ldiv, 1) := by decide +kernel
theorem dX5_storms_217 : decode cX5_storms 217 = .ok (.goto 8, 3) := by decide +kernel
theorem dX5_storms_220 : decode cX5_storms 220 = .ok (.lload 8, 2) := by decide +kernel
theorem dX5_storms_222 : decode cX5_storms 222 = .ok (.lload 10, 2) := by decide +kernel
theorem dX5_storms_224 : decode cX5_storms 224 = .ok (.ldiv, 1) := by decide +kernel
theorem dX5_storms_225 : decode cX5_storms 225 = .ok (.l2i, 1) := by decide +kernel
theorem dX5_storms_226 : decode cX5_storms 226 = .ok (.ireturn, 1) := by decide +kernel
theorem dX5_onMany_0 : decode cX5_onMany 0 = .ok (.iconst 0, 1) := by decide +kernel
theorem dX5_onMany_1 : decode cX5_onMany 1 = .ok (.istore_n 1, 1) := by decide +kernel
theorem dX5_onMany_2 : decode cX5_onMany 2 = .ok (.iconst 0, 1) := by decide +kernel
theorem dX5_onMany_3 : decode cX5_onMany 3 = .ok (.istore_n 2, 1) := by decide +kernel
theorem dX5_onMany_4 : decode cX5_onMany 4 = .ok (.iload_n 2, 1) := by decide +kernel
theorem dX5_onMany_5 : decode cX5_onMany 5 = .ok (.iconst 5, 1) := by decide +kernel
theorem dX5_onMany_6 : decode cX5_onMany 6 = .ok (.aload_n 0, 1) := by decide +kernel
theorem dX5_onMany_7 : decode cX5_onMany 7 = .ok (.getfield 78, 3) := by decide +kernel
theorem dX5_onMany_10 : decode cX5_onMany 10 = .ok (.imul, 1) := by decide +kernel
theorem dX5_onMany_11 : decode cX5_onMany 11 = .ok (.if_icmp .ge 26, 3) := by decide +kernel
theorem dX5_onMany_14 : decode cX5_onMany 14 = .ok (.iload_n 1, 1) := by decide +kernel
theorem dX5_onMany_15 : decode cX5_onMany 15 = .ok (.aload_n 0, 1) := by decide +kernel
theorem dX5_onMany_16 : decode cX5_onMany 16 = .ok (.getfield 19, 3) := by decide +kernel
theorem dX5_onMany_19 : decode cX5_onMany 19 = .ok (.iload_n 2, 1) := by decide +kernel
theorem dX5_onMany_20 : decode cX5_onMany 20 = .ok (.iaload, 1) := by decide +kernel
theorem dX5_onMany_21 : decode cX5_onMany 21 = .ok (.ifCond .le 7, 3) := by decide +kernel
theorem dX5_onMany_24 : decode cX5_onMany 24 = .ok (.iconst 1, 1) := by decide +kernel
theorem dX5_onMany_25 : decode cX5_onMany 25 = .ok (.goto 4, 3) := by decide +kernel
theorem dX5_onMany_28 : decode cX5_onMany 28 = .ok (.iconst 0, 1) := by decide +kernel
theorem dX5_onMany_29 : decode cX5_onMany 29 = .ok (.iadd, 1) := by decide +kernel
theorem dX5_onMany_30 : decode cX5_onMany 30 = .ok (.istore_n 1, 1) := by decide +kernel
theorem dX5_onMany_31 : decode cX5_onMany 31 = .ok (.iinc 2 1, 3) := by decide +kernel
theorem dX5_onMany_34 : decode cX5_onMany 34 = .ok (.goto (-30), 3) := by decide +kernel
theorem dX5_onMany_37 : decode cX5_onMany 37 = .ok (.iload_n 1, 1) := by decide +kernel
theorem dX5_onMany_38 : decode cX5_onMany 38 = .ok (.ireturn, 1) := by decide +kernel
theorem dX5_century_0 : decode cX5_century 0 = .ok (.iload_n 1, 1) := by decide +kernel
theorem dX5_century_1 : decode cX5_century 1 = .ok (.iconst 0, 1) := by decide +kernel
theorem dX5_century_2 : decode cX5_century 2 = .ok (.sipush 9999, 3) := by decide +kernel
theorem dX5_century_5 : decode cX5_century 5 = .ok (.invokestatic 81, 3) := by decide +kernel
theorem dX5_century_8 : decode cX5_century 8 = .ok (.ifCond .eq 22, 3) := by decide +kernel
theorem dX5_century_11 : decode cX5_century 11 = .ok (.iload_n 2, 1) := by decide +kernel
theorem dX5_century_12 : decode cX5_century 12 = .ok (.iconst 1, 1) := by decide +kernel
theorem dX5_century_13 : decode cX5_century 13 = .ok (.bipush 60, 2) := by decide +kernel
theorem dX5_century_15 : decode cX5_century 15 = .ok (.invokestatic 81, 3) := by decide +kernel
theorem dX5_century_18 : decode cX5_century 18 = .ok (.ifCond .eq 12, 3) := by decide +kernel
theorem dX5_century_21 : decode cX5_century 21 = .ok (.iload_n 3, 1) := by decide +kernel
theorem dX5_century_22 : decode cX5_century 22 = .ok (.iconst 0, 1) := by decide +kernel
theorem dX5_century_23 : decode cX5_century 23 = .ok (.iconst 1, 1) := by decide +kernel
theorem dX5_century_24 : decode cX5_century 24 = .ok (.invokestatic 81, 3) := by decide +kernel
theorem dX5_century_27 : decode cX5_century 27 = .ok (.ifCond .ne 5, 3) := by decide +kernel
theorem dX5_century_30 : decode cX5_century 30 = .ok (.iconst (-1), 1) := by decide +kernel
theorem dX5_century_31 : decode cX5_century 31 = .ok (.ireturn, 1) := by decide +kernel
theorem dX5_century_32 : decode cX5_century 32 = .ok (.aload_n 0, 1) := by decide +kernel
theorem dX5_century_33 : decode cX5_century 33 = .ok (.invokevirtual 202, 3) := by decide +kernel
theorem dX5_century_36 : decode cX5_century 36 = .ok (.iconst 0, 1) := by decide +kernel
theorem dX5_century_37 : decode cX5_century 37 = .ok (.istore 4, 2) := by decide +kernel
theorem dX5_century_39 : decode cX5_century 39 = .ok (.iload 4, 2) := by decide +kernel
theorem dX5_century_41 : decode cX5_century 41 = .ok (.iload_n 2, 1) := by decide +kernel
theorem dX5_century_42 : decode cX5_century 42 = .ok (.if_icmp .ge 186, 3) := by decide +kernel
theorem dX5_century_45 : decode cX5_century 45 = .ok (.ldc2_w 237, 3) := by decide +kernel
theorem dX5_century_48 : decode cX5_century 48 = .ok (.iload_n 1, 1) := by decide +kernel
theorem dX5_century_49 : decode cX5_century 49 = .ok (.i2l, 1) := by decide +kernel
theorem dX5_century_50 : decode cX5_century 50 = .ok (.lmul, 1) := by decide +kernel
theorem dX5_century_51 : decode cX5_century 51 = .ok (.ldc2_w 239, 3) := by decide +kernel
theorem dX5_century_54 : decode cX5_century 54 = .ok (.iload 4, 2) := by decide +kernel
theorem dX5_century_56 : decode cX5_century 56 = .ok (.i2l, 1) := by decide +kernel
theorem dX5_century_57 : decode cX5_century 57 = .ok (.lmul, 1) := by decide +kernel
theorem dX5_century_58 : decode cX5_century 58 = .ok (.ladd, 1) := by decide +kernel
theorem dX5_century_59 : decode cX5_century 59 = .ok (.lconst 1, 1) := by decide +kernel
theorem dX5_century_60 : decode cX5_century 60 = .ok (.ladd, 1) := by decide +kernel
theorem dX5_century_61 : decode cX5_century 61 = .ok (.lstore 5, 2) := by decide +kernel
theorem dX5_century_63 : decode cX5_century 63 = .ok (.lload 5, 2) := by decide +kernel
theorem dX5_century_65 : decode cX5_century 65 = .ok (.lload 5, 2) := by decide +kernel
theorem dX5_century_67 : decode cX5_century 67 = .ok (.lmul, 1) := by decide +kernel
theorem dX5_century_68 : decode cX5_century 68 = .ok (.ldc2_w 241, 3) := by decide +kernel
theorem dX5_century_71 : decode cX5_century 71 = .ok (.lrem, 1) := by decide +kernel
theorem dX5_century_72 : decode cX5_century 72 = .ok (.l2i, 1) := by decide +kernel
theorem dX5_century_73 : decode cX5_century 73 = .ok (.istore 7, 2) := by decide +kernel
theorem dX5_century_75 : decode cX5_century 75 = .ok (.iload 7, 2) := by decide +kernel
theorem dX5_century_77 : decode cX5_century 77 = .ok (.bipush 8, 2) := by decide +kernel
theorem dX5_century_79 : decode cX5_century 79 = .ok (.idiv, 1) := by decide +kernel
theorem dX5_century_80 : decode cX5_century 80 = .ok (.aload_n 0, 1) := by decide +kernel
theorem dX5_century_81 : decode cX5_century 81 = .ok (.getfield 78, 3) := by decide +kernel
theorem dX5_century_84 : decode cX5_century 84 = .ok (.irem, 1) := by decide +kernel
theorem dX5_century_85 : decode cX5_century 85 = .ok (.istore 8, 2) := by decide +kernel
theorem dX5_century_87 : decode cX5_century 87 = .ok (.iload 7, 2) := by decide +kernel
theorem dX5_century_89 : decode cX5_century 89 = .ok (.bipush 64, 2) := by decide +kernel
theorem dX5_century_91 : decode cX5_century 91 = .ok (.idiv, 1) := by decide +kernel
theorem dX5_century_92 : decode cX5_century 92 = .ok (.iconst 5, 1) := by decide +kernel
theorem dX5_century_93 : decode cX5_century 93 = .ok (.irem, 1) := by decide +kernel
theorem dX5_century_94 : decode cX5_century 94 = .ok (.istore 9, 2) := by decide +kernel
theorem dX5_century_96 : decode cX5_century 96 = .ok (.iload 7, 2) := by decide +kernel
theorem dX5_century_98 : decode cX5_century 98 = .ok (.sipush 512, 3) := by decide +kernel
theorem dX5_century_101 : decode cX5_century 101 = .ok (.idiv, 1) := by decide +kernel
theorem dX5_century_102 : decode cX5_century 102 = .ok (.bipush 9, 2) := by decide +kernel
theorem dX5_century_104 : decode cX5_century 104 = .ok (.irem, 1) := by decide +kernel
theorem dX5_century_105 : decode cX5_century 105 = .ok (.iconst 1, 1) := by decide +kernel
theorem dX5_century_106 : decode cX5_century 106 = .ok (.iadd, 1) := by decide +kernel
theorem dX5_century_107 : decode cX5_century 107 = .ok (.istore 10, 2) := by decide +kernel
theorem dX5_century_109 : decode cX5_century 109 = .ok (.aload_n 0, 1) := by decide +kernel
theorem dX5_century_110 : decode cX5_century 110 = .ok (.getfield 19, 3) := by decide +kernel
theorem dX5_century_113 : decode cX5_century 113 = .ok (.iconst 5, 1) := by decide +kernel
theorem dX5_century_114 : decode cX5_century 114 = .ok (.iload 8, 2) := by decide +kernel
theorem dX5_century_116 : decode cX5_century 116 = .ok (.imul, 1) := by decide +kernel
theorem dX5_century_117 : decode cX5_century 117 = .ok (.iload 9, 2) := by decide +kernel
theorem dX5_century_119 : decode cX5_century 119 = .ok (.iadd, 1) := by decide +kernel
theorem dX5_century_120 : decode cX5_century 120 = .ok (.iaload, 1) := by decide +kernel
theorem dX5_century_121 : decode cX5_century 121 = .ok (.ifCond .le 7, 3) := by decide +kernel
theorem dX5_century_124 : decode cX5_century 124 = .ok (.iconst 1, 1) := by decide +kernel
theorem dX5_century_125 : decode cX5_century 125 = .ok (.goto 4, 3) := by decide +kernel
theorem dX5_century_128 : decode cX5_century 128 = .ok (.iconst 0, 1) := by decide +kernel
theorem dX5_century_129 : decode cX5_century 129 = .ok (.istore 11, 2) := by decide +kernel
theorem dX5_century_131 : decode cX5_century 131 = .ok (.iload 7, 2) := by decide +kernel
theorem dX5_century_133 : decode cX5_century 133 = .ok (.bipush 8, 2) := by decide +kernel
theorem dX5_century_135 : decode cX5_century 135 = .ok (.irem, 1) := by decide +kernel
theorem dX5_century_136 : decode cX5_century 136 = .ok (.iconst 3, 1) := by decide +kernel
theorem dX5_century_137 : decode cX5_century 137 = .ok (.if_icmp .ge 27, 3) := by decide +kernel
theorem dX5_century_140 : decode cX5_century 140 = .ok (.aload_n 0, 1) := by decide +kernel
theorem dX5_century_141 : decode cX5_century 141 = .ok (.iload 8, 2) := by decide +kernel
theorem dX5_century_143 : decode cX5_century 143 = .ok (.iload 9, 2) := by decide +kernel
theorem dX5_century_145 : decode cX5_century 145 = .ok (.invokevirtual 177, 3) := by decide +kernel
theorem dX5_century_148 : decode cX5_century 148 = .ok (.ifCond .eq 16, 3) := by decide +kernel
theorem dX5_century_151 : decode cX5_century 151 = .ok (.aload_n 0, 1) := by decide +kernel
theorem dX5_century_152 : decode cX5_century 152 = .ok (.iload 8, 2) := by decide +kernel
theorem dX5_century_154 : decode cX5_century 154 = .ok (.iload 9, 2) := by decide +kernel
theorem dX5_century_156 : decode cX5_century 156 = .ok (.iload 10, 2) := by decide +kernel
theorem dX5_century_158 : decode cX5_century 158 = .ok (.invokevirtual 183, 3) := by decide +kernel
theorem dX5_century_161 : decode cX5_century 161 = .ok (.goto 56, 3) := by decide +kernel
theorem dX5_century_164 : decode cX5_century 164 = .ok (.iload 7, 2) := by decide +kernel
theorem dX5_century_166 : decode cX5_century 166 = .ok (.bipush 8, 2) := by decide +kernel
theorem dX5_century_168 : decode cX5_century 168 = .ok (.irem, 1) := by decide +kernel
theorem dX5_century_169 : decode cX5_century 169 = .ok (.iconst 3, 1) := by decide +kernel
theorem dX5_century_170 : decode cX5_century 170 = .ok (.if_icmp .ne 19, 3) := by decide +kernel
theorem dX5_century_173 : decode cX5_century 173 = .ok (.iload 11, 2) := by decide +kernel
theorem dX5_century_175 : decode cX5_century 175 = .ok (.ifCond .eq 14, 3) := by decide +kernel
theorem dX5_century_178 : decode cX5_century 178 = .ok (.aload_n 0, 1) := by decide +kernel
theorem dX5_century_179 : decode cX5_century 179 = .ok (.iload 8, 2) := by decide +kernel
theorem dX5_century_181 : decode cX5_century 181 = .ok (.iload 9, 2) := by decide +kernel
theorem dX5_century_183 : decode cX5_century 183 = .ok (.invokevirtual 187, 3) := by decide +kernel
theorem dX5_century_186 : decode cX5_century 186 = .ok (.goto 31, 3) := by decide +kernel
theorem dX5_century_189 : decode cX5_century 189 = .ok (.iload 7, 2) := by decide +kernel
theorem dX5_century_191 : decode cX5_century 191 = .ok (.bipush 8, 2) := by decide +kernel
theorem dX5_century_193 : decode cX5_century 193 = .ok (.irem, 1) := by decide +kernel
theorem dX5_century_194 : decode cX5_century 194 = .ok (.iconst 4, 1) := by decide +kernel
theorem dX5_century_195 : decode cX5_century 195 = .ok (.if_icmp .ne 22, 3) := by decide +kernel
theorem dX5_century_198 : decode cX5_century 198 = .ok (.iload 11, 2) := by decide +kernel
theorem dX5_century_200 : decode cX5_century 200 = .ok (.ifCond .eq 17, 3) := by decide +kernel
theorem dX5_century_203 : decode cX5_century 203 = .ok (.aload_n 0, 1) := by decide +kernel
theorem dX5_century_204 : decode cX5_century 204 = .ok (.getfield 19, 3) := by decide +kernel
theorem dX5_century_207 : decode cX5_century 207 = .ok (.iconst 5, 1) := by decide +kernel
theorem dX5_century_208 : decode cX5_century 208 = .ok (.iload 8, 2) := by decide +kernel
theorem dX5_century_210 : decode cX5_century 210 = .ok (.imul, 1) := by decide +kernel
theorem dX5_century_211 : decode cX5_century 211 = .ok (.iload 9, 2) := by decide +kernel
theorem dX5_century_213 : decode cX5_century 213 = .ok (.iadd, 1) := by decide +kernel
theorem dX5_century_214 : decode cX5_century 214 = .ok (.iload 10, 2) := by decide +kernel
theorem dX5_century_216 : decode cX5_century 216 = .ok (.iastore, 1) := by decide +kernel
theorem dX5_century_217 : decode cX5_century 217 = .ok (.aload_n 0, 1) := by decide +kernel
theorem dX5_century_218 : decode cX5_century 218 = .ok (.iconst 1, 1) := by decide +kernel
theorem dX5_century_219 : decode cX5_century 219 = .ok (.invokevirtual 190, 3) := by decide +kernel
theorem dX5_century_222 : decode cX5_century 222 = .ok (.iinc 4 1, 3) := by decide +kernel
theorem dX5_century_225 : decode cX5_century 225 = .ok (.goto (-186), 3) := by decide +kernel
theorem dX5_century_228 : decode cX5_century 228 = .ok (.iload_n 3, 1) := by decide +kernel
theorem dX5_century_229 : decode cX5_century 229 = .ok (.ifCond .ne 10, 3) := by decide +kernel
theorem dX5_century_232 : decode cX5_century 232 = .ok (.aload_n 0, 1) := by decide +kernel
theorem dX5_century_233 : decode cX5_century 233 = .ok (.invokevirtual 243, 3) := by decide +kernel
theorem dX5_century_236 : decode cX5_century 236 = .ok (.goto 7, 3) := by decide +kernel
theorem dX5_century_239 : decode cX5_century 239 = .ok (.aload_n 0, 1) := by decide +kernel
theorem dX5_century_240 : decode cX5_century 240 = .ok (.invokevirtual 196, 3) := by decide +kernel
theorem dX5_century_243 : decode cX5_century 243 = .ok (.istore 4, 2) := by decide +kernel
theorem dX5_century_245 : decode cX5_century 245 = .ok (.aload_n 0, 1) := by decide +kernel
theorem dX5_century_246 : decode cX5_century 246 = .ok (.invokevirtual 205, 3) := by decide +kernel
theorem dX5_century_249 : decode cX5_century 249 = .ok (.iload 4, 2) := by decide +kernel
theorem dX5_century_251 : decode cX5_century 251 = .ok (.ireturn, 1) := by decide +kernel
theorem dX5_keep_0 : decode cX5_keep 0 = .ok (.aload_n 0, 1) := by decide +kernel
theorem dX5_keep_1 : decode cX5_keep 1 = .ok (.getfield 142, 3) := by decide +kernel
theorem dX5_keep_4 : decode cX5_keep 4 = .ok (.iconst 2, 1) := by decide +kernel
theorem dX5_keep_5 : decode cX5_keep 5 = .ok (.if_icmp .ne 6, 3) := by decide +kernel
theorem dX5_keep_8 : decode cX5_keep 8 = .ok (.bipush (-3), 2) := by decide +kernel
theorem dX5_keep_10 : decode cX5_keep 10 = .ok (.ireturn, 1) := by decide +kernel
theorem dX5_keep_11 : decode cX5_keep 11 = .ok (.aload_n 0, 1) := by decide +kernel
theorem dX5_keep_12 : decode cX5_keep 12 = .ok (.aload_n 0, 1) := by decide +kernel
theorem dX5_keep_13 : decode cX5_keep 13 = .ok (.getfield 64, 3) := by decide +kernel
theorem dX5_keep_16 : decode cX5_keep 16 = .ok (.bipush 42, 2) := by decide +kernel
theorem dX5_keep_18 : decode cX5_keep 18 = .ok (.aload_n 0, 1) := by decide +kernel
theorem dX5_keep_19 : decode cX5_keep 19 = .ok (.getfield 142, 3) := by decide +kernel
theorem dX5_keep_22 : decode cX5_keep 22 = .ok (.imul, 1) := by decide +kernel
theorem dX5_keep_23 : decode cX5_keep 23 = .ok (.invokevirtual 173, 3) := by decide +kernel
theorem dX5_keep_26 : decode cX5_keep 26 = .ok (.aload_n 0, 1) := by decide +kernel
theorem dX5_keep_27 : decode cX5_keep 27 = .ok (.dup, 1) := by decide +kernel
theorem dX5_keep_28 : decode cX5_keep 28 = .ok (.getfield 142, 3) := by decide +kernel
theorem dX5_keep_31 : decode cX5_keep 31 = .ok (.iconst 1, 1) := by decide +kernel
theorem dX5_keep_32 : decode cX5_keep 32 = .ok (.iadd, 1) := by decide +kernel
theorem dX5_keep_33 : decode cX5_keep 33 = .ok (.putfield 142, 3) := by decide +kernel
theorem dX5_keep_36 : decode cX5_keep 36 = .ok (.aload_n 0, 1) := by decide +kernel
theorem dX5_keep_37 : decode cX5_keep 37 = .ok (.getfield 142, 3) := by decide +kernel
theorem dX5_keep_40 : decode cX5_keep 40 = .ok (.ireturn, 1) := by decide +kernel
theorem dX5_back_0 : decode cX5_back 0 = .ok (.aload_n 0, 1) := by decide +kernel
theorem dX5_back_1 : decode cX5_back 1 = .ok (.getfield 142, 3) := by decide +kernel
theorem dX5_back_4 : decode cX5_back 4 = .ok (.ifCond .ne 6, 3) := by decide +kernel
theorem dX5_back_7 : decode cX5_back 7 = .ok (.bipush (-2), 2) := by decide +kernel
theorem dX5_back_9 : decode cX5_back 9 = .ok (.ireturn, 1) := by decide +kernel
theorem dX5_back_10 : decode cX5_back 10 = .ok (.aload_n 0, 1) := by decide +kernel
theorem dX5_back_11 : decode cX5_back 11 = .ok (.dup, 1) := by decide +kernel
theorem dX5_back_12 : decode cX5_back 12 = .ok (.getfield 142, 3) := by decide +kernel
theorem dX5_back_15 : decode cX5_back 15 = .ok (.iconst 1, 1) := by decide +kernel
theorem dX5_back_16 : decode cX5_back 16 = .ok (.isub, 1) := by decide +kernel
theorem dX5_back_17 : decode cX5_back 17 = .ok (.putfield 142, 3) := by decide +kernel
theorem dX5_back_20 : decode cX5_back 20 = .ok (.aload_n 0, 1) := by decide +kernel
theorem dX5_back_21 : decode cX5_back 21 = .ok (.aload_n 0, 1) := by decide +kernel
theorem dX5_back_22 : decode cX5_back 22 = .ok (.getfield 64, 3) := by decide +kernel
theorem dX5_back_25 : decode cX5_back 25 = .ok (.bipush 42, 2) := by decide +kernel
theorem dX5_back_27 : decode cX5_back 27 = .ok (.aload_n 0, 1) := by decide +kernel
theorem dX5_back_28 : decode cX5_back 28 = .ok (.getfield 142, 3) := by decide +kernel
theorem dX5_back_31 : decode cX5_back 31 = .ok (.imul, 1) := by decide +kernel
theorem dX5_back_32 : decode cX5_back 32 = .ok (.invokevirtual 193, 3) := by decide +kernel
theorem dX5_back_35 : decode cX5_back 35 = .ok (.aload_n 0, 1) := by decide +kernel
theorem dX5_back_36 : decode cX5_back 36 = .ok (.iconst 0, 1) := by decide +kernel
theorem dX5_back_37 : decode cX5_back 37 = .ok (.putfield 139, 3) := by decide +kernel
theorem dX5_back_40 : decode cX5_back 40 = .ok (.aload_n 0, 1) := by decide +kernel
theorem dX5_back_41 : decode cX5_back 41 = .ok (.getfield 142, 3) := by decide +kernel
theorem dX5_back_44 : decode cX5_back 44 = .ok (.ireturn, 1) := by decide +kernel
theorem dX5_storedAll_0 : decode cX5_storedAll 0 = .ok (.iconst 0, 1) := by decide +kernel
theorem dX5_storedAll_1 : decode cX5_storedAll 1 = .ok (.istore_n 1, 1) := by decide +kernel
theorem dX5_storedAll_2 : decode cX5_storedAll 2 = .ok (.iconst 0, 1) := by decide +kernel
theorem dX5_storedAll_3 : decode cX5_storedAll 3 = .ok (.istore_n 2, 1) := by decide +kernel
theorem dX5_storedAll_4 : decode cX5_storedAll 4 = .ok (.iload_n 2, 1) := by decide +kernel
theorem dX5_storedAll_5 : decode cX5_storedAll 5 = .ok (.iconst 5, 1) := by decide +kernel
theorem dX5_storedAll_6 : decode cX5_storedAll 6 = .ok (.if_icmp .ge 18, 3) := by decide +kernel
theorem dX5_storedAll_9 : decode cX5_storedAll 9 = .ok (.iload_n 1, 1) := by decide +kernel
theorem dX5_storedAll_10 : decode cX5_storedAll 10 = .ok (.aload_n 0, 1) := by decide +kernel
theorem dX5_storedAll_11 : decode cX5_storedAll 11 = .ok (.getfield 22, 3) := by decide +kernel
theorem dX5_storedAll_14 : decode cX5_storedAll 14 = .ok (.iload_n 2, 1) := by decide +kernel
theorem dX5_storedAll_15 : decode cX5_storedAll 15 = .ok (.iaload, 1) := by decide +kernel
theorem dX5_storedAll_16 : decode cX5_storedAll 16 = .ok (.iadd, 1) := by decide +kernel
theorem dX5_storedAll_17 : decode cX5_storedAll 17 = .ok (.istore_n 1, 1) := by decide +kernel
theorem dX5_storedAll_18 : decode cX5_storedAll 18 = .ok (.iinc 2 1, 3) := by decide +kernel
theorem dX5_storedAll_21 : decode cX5_storedAll 21 = .ok (.goto (-17), 3) := by decide +kernel
theorem dX5_storedAll_24 : decode cX5_storedAll 24 = .ok (.iload_n 1, 1) := by decide +kernel
theorem dX5_storedAll_25 : decode cX5_storedAll 25 = .ok (.ireturn, 1) := by decide +kernel
theorem dX5_pinsAll_0 : decode cX5_pinsAll 0 = .ok (.iconst 0, 1) := by decide +kernel
theorem dX5_pinsAll_1 : decode cX5_pinsAll 1 = .ok (.istore_n 1, 1) := by decide +kernel
theorem dX5_pinsAll_2 : decode cX5_pinsAll 2 = .ok (.iconst 0, 1) := by decide +kernel
theorem dX5_pinsAll_3 : decode cX5_pinsAll 3 = .ok (.istore_n 2, 1) := by decide +kernel
theorem dX5_pinsAll_4 : decode cX5_pinsAll 4 = .ok (.iload_n 2, 1) := by decide +kernel
theorem dX5_pinsAll_5 : decode cX5_pinsAll 5 = .ok (.iconst 5, 1) := by decide +kernel
theorem dX5_pinsAll_6 : decode cX5_pinsAll 6 = .ok (.aload_n 0, 1) := by decide +kernel
theorem dX5_pinsAll_7 : decode cX5_pinsAll 7 = .ok (.getfield 78, 3) := by decide +kernel
theorem dX5_pinsAll_10 : decode cX5_pinsAll 10 = .ok (.imul, 1) := by decide +kernel
theorem dX5_pinsAll_11 : decode cX5_pinsAll 11 = .ok (.if_icmp .ge 18, 3) := by decide +kernel
theorem dX5_pinsAll_14 : decode cX5_pinsAll 14 = .ok (.iload_n 1, 1) := by decide +kernel
theorem dX5_pinsAll_15 : decode cX5_pinsAll 15 = .ok (.aload_n 0, 1) := by decide +kernel
theorem dX5_pinsAll_16 : decode cX5_pinsAll 16 = .ok (.getfield 19, 3) := by decide +kernel
theorem dX5_pinsAll_19 : decode cX5_pinsAll 19 = .ok (.iload_n 2, 1) := by decide +kernel
theorem dX5_pinsAll_20 : decode cX5_pinsAll 20 = .ok (.iaload, 1) := by decide +kernel
theorem dX5_pinsAll_21 : decode cX5_pinsAll 21 = .ok (.iadd, 1) := by decide +kernel
theorem dX5_pinsAll_22 : decode cX5_pinsAll 22 = .ok (.istore_n 1, 1) := by decide +kernel
theorem dX5_pinsAll_23 : decode cX5_pinsAll 23 = .ok (.iinc 2 1, 3) := by decide +kernel
theorem dX5_pinsAll_26 : decode cX5_pinsAll 26 = .ok (.goto (-22), 3) := by decide +kernel
theorem dX5_pinsAll_29 : decode cX5_pinsAll 29 = .ok (.iload_n 1, 1) := by decide +kernel
theorem dX5_pinsAll_30 : decode cX5_pinsAll 30 = .ok (.ireturn, 1) := by decide +kernel
theorem dX5_ownKnown_0 : decode cX5_ownKnown 0 = .ok (.iconst 0, 1) := by decide +kernel
theorem dX5_ownKnown_1 : decode cX5_ownKnown 1 = .ok (.istore_n 1, 1) := by decide +kernel
theorem dX5_ownKnown_2 : decode cX5_ownKnown 2 = .ok (.iconst 0, 1) := by decide +kernel
theorem dX5_ownKnown_3 : decode cX5_ownKnown 3 = .ok (.istore_n 2, 1) := by decide +kernel
theorem dX5_ownKnown_4 : decode cX5_ownKnown 4 = .ok (.iload_n 2, 1) := by decide +kernel
theorem dX5_ownKnown_5 : decode cX5_ownKnown 5 = .ok (.aload_n 0, 1) := by decide +kernel
theorem dX5_ownKnown_6 : decode cX5_ownKnown 6 = .ok (.getfield 78, 3) := by decide +kernel
theorem dX5_ownKnown_9 : decode cX5_ownKnown 9 = .ok (.if_icmp .ge 26, 3) := by decide +kernel
theorem dX5_ownKnown_12 : decode cX5_ownKnown 12 = .ok (.iload_n 1, 1) := by decide +kernel
theorem dX5_ownKnown_13 : decode cX5_ownKnown 13 = .ok (.aload_n 0, 1) := by decide +kernel
theorem dX5_ownKnown_14 : decode cX5_ownKnown 14 = .ok (.iload_n 2, 1) := by decide +kernel
theorem dX5_ownKnown_15 : decode cX5_ownKnown 15 = .ok (.invokevirtual 199, 3) := by decide +kernel
theorem dX5_ownKnown_18 : decode cX5_ownKnown 18 = .ok (.iload_n 2, 1) := by decide +kernel
theorem dX5_ownKnown_19 : decode cX5_ownKnown 19 = .ok (.if_icmp .ne 7, 3) := by decide +kernel
theorem dX5_ownKnown_22 : decode cX5_ownKnown 22 = .ok (.iconst 1, 1) := by decide +kernel
theorem dX5_ownKnown_23 : decode cX5_ownKnown 23 = .ok (.goto 4, 3) := by decide +kernel
theorem dX5_ownKnown_26 : decode cX5_ownKnown 26 = .ok (.iconst 0, 1) := by decide +kernel
theorem dX5_ownKnown_27 : decode cX5_ownKnown 27 = .ok (.iadd, 1) := by decide +kernel
theorem dX5_ownKnown_28 : decode cX5_ownKnown 28 = .ok (.istore_n 1, 1) := by decide +kernel
theorem dX5_ownKnown_29 : decode cX5_ownKnown 29 = .ok (.iinc 2 1, 3) := by decide +kernel
theorem dX5_ownKnown_32 : decode cX5_ownKnown 32 = .ok (.goto (-28), 3) := by decide +kernel
theorem dX5_ownKnown_35 : decode cX5_ownKnown 35 = .ok (.iload_n 1, 1) := by decide +kernel
theorem dX5_ownKnown_36 : decode cX5_ownKnown 36 = .ok (.ireturn, 1) := by decide +kernel
theorem dX5_count_0 : decode cX5_count 0 = .ok (.iload_n 1, 1) := by decide +kernel
theorem dX5_count_1 : decode cX5_count 1 = .ok (.iconst 0, 1) := by decide +kernel
theorem dX5_count_2 : decode cX5_count 2 = .ok (.bipush 9, 2) := by decide +kernel
theorem dX5_count_4 : decode cX5_count 4 = .ok (.invokestatic 81, 3) := by decide +kernel
theorem dX5_count_7 : decode cX5_count 7 = .ok (.ifCond .ne 5, 3) := by decide +kernel
theorem dX5_count_10 : decode cX5_count 10 = .ok (.iconst (-1), 1) := by decide +kernel
theorem dX5_count_11 : decode cX5_count 11 = .ok (.ireturn, 1) := by decide +kernel
theorem dX5_count_12 : decode cX5_count 12 = .ok (.iload_n 1, 1) := by decide +kernel
theorem dX5_count_13 : decode cX5_count 13 = .ok (.tableswitch 96 0 8 #[51, 56, 61, 66, 71, 76, 81, 86, 91], 51) := by decide +kernel
theorem dX5_count_64 : decode cX5_count 64 = .ok (.aload_n 0, 1) := by decide +kernel
theorem dX5_count_65 : decode cX5_count 65 = .ok (.getfield 78, 3) := by decide +kernel
theorem dX5_count_68 : decode cX5_count 68 = .ok (.ireturn, 1) := by decide +kernel
theorem dX5_count_69 : decode cX5_count 69 = .ok (.aload_n 0, 1) := by decide +kernel
theorem dX5_count_70 : decode cX5_count 70 = .ok (.getfield 133, 3) := by decide +kernel
theorem dX5_count_73 : decode cX5_count 73 = .ok (.ireturn, 1) := by decide +kernel
theorem dX5_count_74 : decode cX5_count 74 = .ok (.aload_n 0, 1) := by decide +kernel
theorem dX5_count_75 : decode cX5_count 75 = .ok (.invokevirtual 243, 3) := by decide +kernel
theorem dX5_count_78 : decode cX5_count 78 = .ok (.ireturn, 1) := by decide +kernel
theorem dX5_count_79 : decode cX5_count 79 = .ok (.aload_n 0, 1) := by decide +kernel
theorem dX5_count_80 : decode cX5_count 80 = .ok (.invokevirtual 246, 3) := by decide +kernel
theorem dX5_count_83 : decode cX5_count 83 = .ok (.ireturn, 1) := by decide +kernel
theorem dX5_count_84 : decode cX5_count 84 = .ok (.aload_n 0, 1) := by decide +kernel
theorem dX5_count_85 : decode cX5_count 85 = .ok (.invokevirtual 249, 3) := by decide +kernel
theorem dX5_count_88 : decode cX5_count 88 = .ok (.ireturn, 1) := by decide +kernel
theorem dX5_count_89 : decode cX5_count 89 = .ok (.aload_n 0, 1) := by decide +kernel
theorem dX5_count_90 : decode cX5_count 90 = .ok (.invokevirtual 252, 3) := by decide +kernel
theorem dX5_count_93 : decode cX5_count 93 = .ok (.ireturn, 1) := by decide +kernel
theorem dX5_count_94 : decode cX5_count 94 = .ok (.aload_n 0, 1) := by decide +kernel
theorem dX5_count_95 : decode cX5_count 95 = .ok (.getfield 136, 3) := by decide +kernel
theorem dX5_count_98 : decode cX5_count 98 = .ok (.ireturn, 1) := by decide +kernel
theorem dX5_count_99 : decode cX5_count 99 = .ok (.aload_n 0, 1) := by decide +kernel
theorem dX5_count_100 : decode cX5_count 100 = .ok (.getfield 139, 3) := by decide +kernel
theorem dX5_count_103 : decode cX5_count 103 = .ok (.ireturn, 1) := by decide +kernel
theorem dX5_count_104 : decode cX5_count 104 = .ok (.aload_n 0, 1) := by decide +kernel
theorem dX5_count_105 : decode cX5_count 105 = .ok (.getfield 142, 3) := by decide +kernel
theorem dX5_count_108 : decode cX5_count 108 = .ok (.ireturn, 1) := by decide +kernel
theorem dX5_count_109 : decode cX5_count 109 = .ok (.aload_n 0, 1) := by decide +kernel
theorem dX5_count_110 : decode cX5_count 110 = .ok (.getfield 89, 3) := by decide +kernel
theorem dX5_count_113 : decode cX5_count 113 = .ok (.ireturn, 1) := by decide +kernel
end
section
theorem dJ6_bitCount_0f7a4_0 : decode cJ6_bitCount_0f7a4 0 = .ok (.iload_n 0, 1) := by decide +kernel
theorem dJ6_bitCount_0f7a4_1 : decode cJ6_bitCount_0f7a4 1 = .ok (.iload_n 0, 1) := by decide +kernel
theorem dJ6_bitCount_0f7a4_2 : decode cJ6_bitCount_0f7a4 2 = .ok (.iconst 1, 1) := by decide +kernel
theorem dJ6_bitCount_0f7a4_3 : decode cJ6_bitCount_0f7a4 3 = .ok (.iushr, 1) := by decide +kernel
theorem dJ6_bitCount_0f7a4_4 : decode cJ6_bitCount_0f7a4 4 = .ok (.ldc_w 265, 3) := by decide +kernel
theorem dJ6_bitCount_0f7a4_7 : decode cJ6_bitCount_0f7a4 7 = .ok (.iand, 1) := by decide +kernel
theorem dJ6_bitCount_0f7a4_8 : decode cJ6_bitCount_0f7a4 8 = .ok (.isub, 1) := by decide +kernel
theorem dJ6_bitCount_0f7a4_9 : decode cJ6_bitCount_0f7a4 9 = .ok (.istore_n 0, 1) := by decide +kernel
theorem dJ6_bitCount_0f7a4_10 : decode cJ6_bitCount_0f7a4 10 = .ok (.iload_n 0, 1) := by decide +kernel
theorem dJ6_bitCount_0f7a4_11 : decode cJ6_bitCount_0f7a4 11 = .ok (.ldc_w 266, 3) := by decide +kernel
theorem dJ6_bitCount_0f7a4_14 : decode cJ6_bitCount_0f7a4 14 = .ok (.iand, 1) := by decide +kernel
theorem dJ6_bitCount_0f7a4_15 : decode cJ6_bitCount_0f7a4 15 = .ok (.iload_n 0, 1) := by decide +kernel
theorem dJ6_bitCount_0f7a4_16 : decode cJ6_bitCount_0f7a4 16 = .ok (.iconst 2, 1) := by decide +kernel
theorem dJ6_bitCount_0f7a4_17 : decode cJ6_bitCount_0f7a4 17 = .ok (.iushr, 1) := by decide +kernel
theorem dJ6_bitCount_0f7a4_18 : decode cJ6_bitCount_0f7a4 18 = .ok (.ldc_w 266, 3) := by decide +kernel
theorem dJ6_bitCount_0f7a4_21 : decode cJ6_bitCount_0f7a4 21 = .ok (.iand, 1) := by decide +kernel
theorem dJ6_bitCount_0f7a4_22 : decode cJ6_bitCount_0f7a4 22 = .ok (.iadd, 1) := by decide +kernel
theorem dJ6_bitCount_0f7a4_23 : decode cJ6_bitCount_0f7a4 23 = .ok (.istore_n 0, 1) := by decide +kernel
theorem dJ6_bitCount_0f7a4_24 : decode cJ6_bitCount_0f7a4 24 = .ok (.iload_n 0, 1) := by decide +kernel
theorem dJ6_bitCount_0f7a4_25 : decode cJ6_bitCount_0f7a4 25 = .ok (.iload_n 0, 1) := by decide +kernel
theorem dJ6_bitCount_0f7a4_26 : decode cJ6_bitCount_0f7a4 26 = .ok (.iconst 4, 1) := by decide +kernel
theorem dJ6_bitCount_0f7a4_27 : decode cJ6_bitCount_0f7a4 27 = .ok (.iushr, 1) := by decide +kernel
theorem dJ6_bitCount_0f7a4_28 : decode cJ6_bitCount_0f7a4 28 = .ok (.iadd, 1) := by decide +kernel
theorem dJ6_bitCount_0f7a4_29 : decode cJ6_bitCount_0f7a4 29 = .ok (.ldc_w 267, 3) := by decide +kernel
theorem dJ6_bitCount_0f7a4_32 : decode cJ6_bitCount_0f7a4 32 = .ok (.iand, 1) := by decide +kernel
theorem dJ6_bitCount_0f7a4_33 : decode cJ6_bitCount_0f7a4 33 = .ok (.istore_n 0, 1) := by decide +kernel
theorem dJ6_bitCount_0f7a4_34 : decode cJ6_bitCount_0f7a4 34 = .ok (.iload_n 0, 1) := by decide +kernel
theorem dJ6_bitCount_0f7a4_35 : decode cJ6_bitCount_0f7a4 35 = .ok (.iload_n 0, 1) := by decide +kernel
theorem dJ6_bitCount_0f7a4_36 : decode cJ6_bitCount_0f7a4 36 = .ok (.bipush 8, 2) := by decide +kernel
theorem dJ6_bitCount_0f7a4_38 : decode cJ6_bitCount_0f7a4 38 = .ok (.iushr, 1) := by decide +kernel
theorem dJ6_bitCount_0f7a4_39 : decode cJ6_bitCount_0f7a4 39 = .ok (.iadd, 1) := by decide +kernel
theorem dJ6_bitCount_0f7a4_40 : decode cJ6_bitCount_0f7a4 40 = .ok (.istore_n 0, 1) := by decide +kernel
theorem dJ6_bitCount_0f7a4_41 : decode cJ6_bitCount_0f7a4 41 = .ok (.iload_n 0, 1) := by decide +kernel
theorem dJ6_bitCount_0f7a4_42 : decode cJ6_bitCount_0f7a4 42 = .ok (.iload_n 0, 1) := by decide +kernel
theorem dJ6_bitCount_0f7a4_43 : decode cJ6_bitCount_0f7a4 43 = .ok (.bipush 16, 2) := by decide +kernel
theorem dJ6_bitCount_0f7a4_45 : decode cJ6_bitCount_0f7a4 45 = .ok (.iushr, 1) := by decide +kernel
theorem dJ6_bitCount_0f7a4_46 : decode cJ6_bitCount_0f7a4 46 = .ok (.iadd, 1) := by decide +kernel
theorem dJ6_bitCount_0f7a4_47 : decode cJ6_bitCount_0f7a4 47 = .ok (.istore_n 0, 1) := by decide +kernel
theorem dJ6_bitCount_0f7a4_48 : decode cJ6_bitCount_0f7a4 48 = .ok (.iload_n 0, 1) := by decide +kernel
theorem dJ6_bitCount_0f7a4_49 : decode cJ6_bitCount_0f7a4 49 = .ok (.bipush 63, 2) := by decide +kernel
theorem dJ6_bitCount_0f7a4_51 : decode cJ6_bitCount_0f7a4 51 = .ok (.iand, 1) := by decide +kernel
theorem dJ6_bitCount_0f7a4_52 : decode cJ6_bitCount_0f7a4 52 = .ok (.ireturn, 1) := by decide +kernel
theorem dJ9_max_7cf53_0 : decode cJ9_max_7cf53 0 = .ok (.iload_n 0, 1) := by decide +kernel
theorem dJ9_max_7cf53_1 : decode cJ9_max_7cf53 1 = .ok (.iload_n 1, 1) := by decide +kernel
theorem dJ9_max_7cf53_2 : decode cJ9_max_7cf53 2 = .ok (.if_icmp .lt 7, 3) := by decide +kernel
theorem dJ9_max_7cf53_5 : decode cJ9_max_7cf53 5 = .ok (.iload_n 0, 1) := by decide +kernel
theorem dJ9_max_7cf53_6 : decode cJ9_max_7cf53 6 = .ok (.goto 4, 3) := by decide +kernel
theorem dJ9_max_7cf53_9 : decode cJ9_max_7cf53 9 = .ok (.iload_n 1, 1) := by decide +kernel
theorem dJ9_max_7cf53_10 : decode cJ9_max_7cf53 10 = .ok (.ireturn, 1) := by decide +kernel
theorem dJ9_min_7cf53_0 : decode cJ9_min_7cf53 0 = .ok (.iload_n 0, 1) := by decide +kernel
theorem dJ9_min_7cf53_1 : decode cJ9_min_7cf53 1 = .ok (.iload_n 1, 1) := by decide +kernel
theorem dJ9_min_7cf53_2 : decode cJ9_min_7cf53 2 = .ok (.if_icmp .gt 7, 3) := by decide +kernel
theorem dJ9_min_7cf53_5 : decode cJ9_min_7cf53 5 = .ok (.iload_n 0, 1) := by decide +kernel
theorem dJ9_min_7cf53_6 : decode cJ9_min_7cf53 6 = .ok (.goto 4, 3) := by decide +kernel
theorem dJ9_min_7cf53_9 : decode cJ9_min_7cf53 9 = .ok (.iload_n 1, 1) := by decide +kernel
theorem dJ9_min_7cf53_10 : decode cJ9_min_7cf53 10 = .ok (.ireturn, 1) := by decide +kernel
theorem dJ0_length_8abf5_0 : decode cJ0_length_8abf5 0 = .ok (.aload_n 0, 1) := by decide +kernel
theorem dJ0_length_8abf5_1 : decode cJ0_length_8abf5 1 = .ok (.getfield 9, 3) := by decide +kernel
theorem dJ0_length_8abf5_4 : decode cJ0_length_8abf5 4 = .ok (.arraylength, 1) := by decide +kernel
theorem dJ0_length_8abf5_5 : decode cJ0_length_8abf5 5 = .ok (.aload_n 0, 1) := by decide +kernel
theorem dJ0_length_8abf5_6 : decode cJ0_length_8abf5 6 = .ok (.invokevirtual 335, 3) := by decide +kernel
theorem dJ0_length_8abf5_9 : decode cJ0_length_8abf5 9 = .ok (.ishr, 1) := by decide +kernel
theorem dJ0_length_8abf5_10 : decode cJ0_length_8abf5 10 = .ok (.ireturn, 1) := by decide +kernel
theorem dJ0_charAt_5068e_0 : decode cJ0_charAt_5068e 0 = .ok (.aload_n 0, 1) := by decide +kernel
theorem dJ0_charAt_5068e_1 : decode cJ0_charAt_5068e 1 = .ok (.invokevirtual 492, 3) := by decide +kernel
theorem dJ0_charAt_5068e_4 : decode cJ0_charAt_5068e 4 = .ok (.ifCond .eq 12, 3) := by decide +kernel
theorem dJ0_charAt_5068e_7 : decode cJ0_charAt_5068e 7 = .ok (.aload_n 0, 1) := by decide +kernel
theorem dJ0_charAt_5068e_8 : decode cJ0_charAt_5068e 8 = .ok (.getfield 9, 3) := by decide +kernel
theorem dJ0_charAt_5068e_11 : decode cJ0_charAt_5068e 11 = .ok (.iload_n 1, 1) := by decide +kernel
theorem dJ0_charAt_5068e_12 : decode cJ0_charAt_5068e 12 = .ok (.invokestatic 495, 3) := by decide +kernel
theorem dJ0_charAt_5068e_15 : decode cJ0_charAt_5068e 15 = .ok (.ireturn, 1) := by decide +kernel
theorem dJ0_charAt_5068e_16 : decode cJ0_charAt_5068e 16 = .ok (.aload_n 0, 1) := by decide +kernel
theorem dJ0_charAt_5068e_17 : decode cJ0_charAt_5068e 17 = .ok (.getfield 9, 3) := by decide +kernel
theorem dJ0_charAt_5068e_20 : decode cJ0_charAt_5068e 20 = .ok (.iload_n 1, 1) := by decide +kernel
theorem dJ0_charAt_5068e_21 : decode cJ0_charAt_5068e 21 = .ok (.invokestatic 498, 3) := by decide +kernel
theorem dJ0_charAt_5068e_24 : decode cJ0_charAt_5068e 24 = .ok (.ireturn, 1) := by decide +kernel
theorem dJ0_coder_7d493_0 : decode cJ0_coder_7d493 0 = .ok (.getstatic 38, 3) := by decide +kernel
theorem dJ0_coder_7d493_3 : decode cJ0_coder_7d493 3 = .ok (.ifCond .eq 10, 3) := by decide +kernel
theorem dJ0_coder_7d493_6 : decode cJ0_coder_7d493 6 = .ok (.aload_n 0, 1) := by decide +kernel
theorem dJ0_coder_7d493_7 : decode cJ0_coder_7d493 7 = .ok (.getfield 15, 3) := by decide +kernel
theorem dJ0_coder_7d493_10 : decode cJ0_coder_7d493 10 = .ok (.goto 4, 3) := by decide +kernel
theorem dJ0_coder_7d493_13 : decode cJ0_coder_7d493 13 = .ok (.iconst 1, 1) := by decide +kernel
theorem dJ0_coder_7d493_14 : decode cJ0_coder_7d493 14 = .ok (.ireturn, 1) := by decide +kernel
theorem dJ0_isLatin1_aae02_0 : decode cJ0_isLatin1_aae02 0 = .ok (.getstatic 38, 3) := by decide +kernel
theorem dJ0_isLatin1_aae02_3 : decode cJ0_isLatin1_aae02 3 = .ok (.ifCond .eq 14, 3) := by decide +kernel
theorem dJ0_isLatin1_aae02_6 : decode cJ0_isLatin1_aae02 6 = .ok (.aload_n 0, 1) := by decide +kernel
theorem dJ0_isLatin1_aae02_7 : decode cJ0_isLatin1_aae02 7 = .ok (.getfield 15, 3) := by decide +kernel
theorem dJ0_isLatin1_aae02_10 : decode cJ0_isLatin1_aae02 10 = .ok (.ifCond .ne 7, 3) := by decide +kernel
theorem dJ0_isLatin1_aae02_13 : decode cJ0_isLatin1_aae02 13 = .ok (.iconst 1, 1) := by decide +kernel
theorem dJ0_isLatin1_aae02_14 : decode cJ0_isLatin1_aae02 14 = .ok (.goto 4, 3) := by decide +kernel
theorem dJ0_isLatin1_aae02_17 : decode cJ0_isLatin1_aae02 17 = .ok (.iconst 0, 1) := by decide +kernel
theorem dJ0_isLatin1_aae02_18 : decode cJ0_isLatin1_aae02 18 = .ok (.ireturn, 1) := by decide +kernel
theorem dJ0_checkIndex_df160_0 : decode cJ0_checkIndex_df160 0 = .ok (.iload_n 0, 1) := by decide +kernel
theorem dJ0_checkIndex_df160_1 : decode cJ0_checkIndex_df160 1 = .ok (.iload_n 1, 1) := by decide +kernel
theorem dJ0_checkIndex_df160_2 : decode cJ0_checkIndex_df160 2 = .ok (.getstatic 1053, 3) := by decide +kernel
theorem dJ0_checkIndex_df160_5 : decode cJ0_checkIndex_df160 5 = .ok (.invokestatic 1059, 3) := by decide +kernel
theorem dJ0_checkIndex_df160_8 : decode cJ0_checkIndex_df160 8 = .ok (.pop, 1) := by decide +kernel
theorem dJ0_checkIndex_df160_9 : decode cJ0_checkIndex_df160 9 = .ok (.return_, 1) := by decide +kernel
theorem dJ1_charAt_3b067_0 : decode cJ1_charAt_3b067 0 = .ok (.iload_n 1, 1) := by decide +kernel
theorem dJ1_charAt_3b067_1 : decode cJ1_charAt_3b067 1 = .ok (.aload_n 0, 1) := by decide +kernel
theorem dJ1_charAt_3b067_2 : decode cJ1_charAt_3b067 2 = .ok (.arraylength, 1) := by decide +kernel
theorem dJ1_charAt_3b067_3 : decode cJ1_charAt_3b067 3 = .ok (.invokestatic 9, 3) := by decide +kernel
theorem dJ1_charAt_3b067_6 : decode cJ1_charAt_3b067 6 = .ok (.aload_n 0, 1) := by decide +kernel
theorem dJ1_charAt_3b067_7 : decode cJ1_charAt_3b067 7 = .ok (.iload_n 1, 1) := by decide +kernel
theorem dJ1_charAt_3b067_8 : decode cJ1_charAt_3b067 8 = .ok (.baload, 1) := by decide +kernel
theorem dJ1_charAt_3b067_9 : decode cJ1_charAt_3b067 9 = .ok (.sipush 255, 3) := by decide +kernel
theorem dJ1_charAt_3b067_12 : decode cJ1_charAt_3b067 12 = .ok (.iand, 1) := by decide +kernel
theorem dJ1_charAt_3b067_13 : decode cJ1_charAt_3b067 13 = .ok (.i2c, 1) := by decide +kernel
theorem dJ1_charAt_3b067_14 : decode cJ1_charAt_3b067 14 = .ok (.ireturn, 1) := by decide +kernel
theorem dJ2_getChar_3b067_0 : decode cJ2_getChar_3b067 0 = .ok (.getstatic 44, 3) := by decide +kernel
theorem dJ2_getChar_3b067_3 : decode cJ2_getChar_3b067 3 = .ok (.ifCond .ne 25, 3) := by decide +kernel
theorem dJ2_getChar_3b067_6 : decode cJ2_getChar_3b067 6 = .ok (.iload_n 1, 1) := by decide +kernel
theorem dJ2_getChar_3b067_7 : decode cJ2_getChar_3b067 7 = .ok (.ifCond .lt 11, 3) := by decide +kernel
theorem dJ2_getChar_3b067_10 : decode cJ2_getChar_3b067 10 = .ok (.iload_n 1, 1) := by decide +kernel
theorem dJ2_getChar_3b067_11 : decode cJ2_getChar_3b067 11 = .ok (.aload_n 0, 1) := by decide +kernel
theorem dJ2_getChar_3b067_12 : decode cJ2_getChar_3b067 12 = .ok (.invokestatic 48, 3) := by decide +kernel
theorem dJ2_getChar_3b067_15 : decode cJ2_getChar_3b067 15 = .ok (.if_icmp .lt 13, 3) := by decide +kernel
theorem dJ2_getChar_3b067_18 : decode cJ2_getChar_3b067 18 = .ok (.new 52, 3) := by decide +kernel
theorem dJ2_getChar_3b067_21 : decode cJ2_getChar_3b067 21 = .ok (.dup, 1) := by decide +kernel
theorem dJ2_getChar_3b067_22 : decode cJ2_getChar_3b067 22 = .ok (.ldc 54, 2) := by decide +kernel
theorem dJ2_getChar_3b067_24 : decode cJ2_getChar_3b067 24 = .ok (.invokespecial 56, 3) := by decide +kernel
theorem dJ2_getChar_3b067_27 : decode cJ2_getChar_3b067 27 = .ok (.athrow, 1) := by decide +kernel
theorem dJ2_getChar_3b067_28 : decode cJ2_getChar_3b067 28 = .ok (.iload_n 1, 1) := by decide +kernel
theorem dJ2_getChar_3b067_29 : decode cJ2_getChar_3b067 29 = .ok (.iconst 1, 1) := by decide +kernel
theorem dJ2_getChar_3b067_30 : decode cJ2_getChar_3b067 30 = .ok (.ishl, 1) := by decide +kernel
theorem dJ2_getChar_3b067_31 : decode cJ2_getChar_3b067 31 = .ok (.istore_n 1, 1) := by decide +kernel
theorem dJ2_getChar_3b067_32 : decode cJ2_getChar_3b067 32 = .ok (.aload_n 0, 1) := by decide +kernel
theorem dJ2_getChar_3b067_33 : decode cJ2_getChar_3b067 33 = .ok (.iload_n 1, 1) := by decide +kernel
theorem dJ2_getChar_3b067_34 : decode cJ2_getChar_3b067 34 = .ok (.iinc 1 1, 3) := by decide +kernel
theorem dJ2_getChar_3b067_37 : decode cJ2_getChar_3b067 37 = .ok (.baload, 1) := by decide +kernel
theorem dJ2_getChar_3b067_38 : decode cJ2_getChar_3b067 38 = .ok (.sipush 255, 3) := by decide +kernel
theorem dJ2_getChar_3b067_41 : decode cJ2_getChar_3b067 41 = .ok (.iand, 1) := by decide +kernel
theorem dJ2_getChar_3b067_42 : decode cJ2_getChar_3b067 42 = .ok (.getstatic 59, 3) := by decide +kernel
theorem dJ2_getChar_3b067_45 : decode cJ2_getChar_3b067 45 = .ok (.ishl, 1) := by decide +kernel
theorem dJ2_getChar_3b067_46 : decode cJ2_getChar_3b067 46 = .ok (.aload_n 0, 1) := by decide +kernel
theorem dJ2_getChar_3b067_47 : decode cJ2_getChar_3b067 47 = .ok (.iload_n 1, 1) := by decide +kernel
theorem dJ2_getChar_3b067_48 : decode cJ2_getChar_3b067 48 = .ok (.baload, 1) := by decide +kernel
theorem dJ2_getChar_3b067_49 : decode cJ2_getChar_3b067 49 = .ok (.sipush 255, 3) := by decide +kernel
theorem dJ2_getChar_3b067_52 : decode cJ2_getChar_3b067 52 = .ok (.iand, 1) := by decide +kernel
theorem dJ2_getChar_3b067_53 : decode cJ2_getChar_3b067 53 = .ok (.getstatic 63, 3) := by decide +kernel
theorem dJ2_getChar_3b067_56 : decode cJ2_getChar_3b067 56 = .ok (.ishl, 1) := by decide +kernel
theorem dJ2_getChar_3b067_57 : decode cJ2_getChar_3b067 57 = .ok (.ior, 1) := by decide +kernel
theorem dJ2_getChar_3b067_58 : decode cJ2_getChar_3b067 58 = .ok (.i2c, 1) := by decide +kernel
theorem dJ2_getChar_3b067_59 : decode cJ2_getChar_3b067 59 = .ok (.ireturn, 1) := by decide +kernel
theorem dJ2_length_9d52b_0 : decode cJ2_length_9d52b 0 = .ok (.aload_n 0, 1) := by decide +kernel
theorem dJ2_length_9d52b_1 : decode cJ2_length_9d52b 1 = .ok (.arraylength, 1) := by decide +kernel
theorem dJ2_length_9d52b_2 : decode cJ2_length_9d52b 2 = .ok (.iconst 1, 1) := by decide +kernel
theorem dJ2_length_9d52b_3 : decode cJ2_length_9d52b 3 = .ok (.ishr, 1) := by decide +kernel
theorem dJ2_length_9d52b_4 : decode cJ2_length_9d52b 4 = .ok (.ireturn, 1) := by decide +kernel
theorem dJ2_charAt_3b067_0 : decode cJ2_charAt_3b067 0 = .ok (.iload_n 1, 1) := by decide +kernel
theorem dJ2_charAt_3b067_1 : decode cJ2_charAt_3b067 1 = .ok (.aload_n 0, 1) := by decide +kernel
theorem dJ2_charAt_3b067_2 : decode cJ2_charAt_3b067 2 = .ok (.invokestatic 67, 3) := by decide +kernel
theorem dJ2_charAt_3b067_5 : decode cJ2_charAt_3b067 5 = .ok (.aload_n 0, 1) := by decide +kernel
theorem dJ2_charAt_3b067_6 : decode cJ2_charAt_3b067 6 = .ok (.iload_n 1, 1) := by decide +kernel
theorem dJ2_charAt_3b067_7 : decode cJ2_charAt_3b067 7 = .ok (.invokestatic 71, 3) := by decide +kernel
theorem dJ2_charAt_3b067_10 : decode cJ2_charAt_3b067 10 = .ok (.ireturn, 1) := by decide +kernel
theorem dJ2_checkIndex_2214a_0 : decode cJ2_checkIndex_2214a 0 = .ok (.iload_n 0, 1) := by decide +kernel
theorem dJ2_checkIndex_2214a_1 : decode cJ2_checkIndex_2214a 1 = .ok (.aload_n 1, 1) := by decide +kernel
theorem dJ2_checkIndex_2214a_2 : decode cJ2_checkIndex_2214a 2 = .ok (.invokestatic 48, 3) := by decide +kernel
theorem dJ2_checkIndex_2214a_5 : decode cJ2_checkIndex_2214a 5 = .ok (.invokestatic 414, 3) := by decide +kernel
theorem dJ2_checkIndex_2214a_8 : decode cJ2_checkIndex_2214a 8 = .ok (.return_, 1) := by decide +kernel
theorem dJ7_rangeCheck_23922_0 : decode cJ7_rangeCheck_23922 0 = .ok (.iload_n 1, 1) := by decide +kernel
theorem dJ7_rangeCheck_23922_1 : decode cJ7_rangeCheck_23922 1 = .ok (.iload_n 2, 1) := by decide +kernel
theorem dJ7_rangeCheck_23922_2 : decode cJ7_rangeCheck_23922 2 = .ok (.if_icmp .le 44, 3) := by decide +kernel
theorem dJ7_rangeCheck_23922_5 : decode cJ7_rangeCheck_23922 5 = .ok (.new 43, 3) := by decide +kernel
theorem dJ7_rangeCheck_23922_8 : decode cJ7_rangeCheck_23922 8 = .ok (.dup, 1) := by decide +kernel
theorem dJ7_rangeCheck_23922_9 : decode cJ7_rangeCheck_23922 9 = .ok (.new 45, 3) := by decide +kernel
theorem dJ7_rangeCheck_23922_12 : decode cJ7_rangeCheck_23922 12 = .ok (.dup, 1) := by decide +kernel
theorem dJ7_rangeCheck_23922_13 : decode cJ7_rangeCheck_23922 13 = .ok (.invokespecial 47, 3) := by decide +kernel
theorem dJ7_rangeCheck_23922_16 : decode cJ7_rangeCheck_23922 16 = .ok (.ldc 48, 2) := by decide +kernel
theorem dJ7_rangeCheck_23922_18 : decode cJ7_rangeCheck_23922 18 = .ok (.invokevirtual 50, 3) := by decide +kernel
theorem dJ7_rangeCheck_23922_21 : decode cJ7_rangeCheck_23922 21 = .ok (.iload_n 1, 1) := by decide +kernel
theorem dJ7_rangeCheck_23922_22 : decode cJ7_rangeCheck_23922 22 = .ok (.invokevirtual 54, 3) := by decide +kernel
theorem dJ7_rangeCheck_23922_25 : decode cJ7_rangeCheck_23922 25 = .ok (.ldc 57, 2) := by decide +kernel
theorem dJ7_rangeCheck_23922_27 : decode cJ7_rangeCheck_23922 27 = .ok (.invokevirtual 50, 3) := by decide +kernel
theorem dJ7_rangeCheck_23922_30 : decode cJ7_rangeCheck_23922 30 = .ok (.iload_n 2, 1) := by decide +kernel
theorem dJ7_rangeCheck_23922_31 : decode cJ7_rangeCheck_23922 31 = .ok (.invokevirtual 54, 3) := by decide +kernel
theorem dJ7_rangeCheck_23922_34 : decode cJ7_rangeCheck_23922 34 = .ok (.ldc 59, 2) := by decide +kernel
theorem dJ7_rangeCheck_23922_36 : decode cJ7_rangeCheck_23922 36 = .ok (.invokevirtual 50, 3) := by decide +kernel
theorem dJ7_rangeCheck_23922_39 : decode cJ7_rangeCheck_23922 39 = .ok (.invokevirtual 61, 3) := by decide +kernel
theorem dJ7_rangeCheck_23922_42 : decode cJ7_rangeCheck_23922 42 = .ok (.invokespecial 65, 3) := by decide +kernel
theorem dJ7_rangeCheck_23922_45 : decode cJ7_rangeCheck_23922 45 = .ok (.athrow, 1) := by decide +kernel
theorem dJ7_rangeCheck_23922_46 : decode cJ7_rangeCheck_23922 46 = .ok (.iload_n 1, 1) := by decide +kernel
theorem dJ7_rangeCheck_23922_47 : decode cJ7_rangeCheck_23922 47 = .ok (.ifCond .ge 12, 3) := by decide +kernel
theorem dJ7_rangeCheck_23922_50 : decode cJ7_rangeCheck_23922 50 = .ok (.new 68, 3) := by decide +kernel
theorem dJ7_rangeCheck_23922_53 : decode cJ7_rangeCheck_23922 53 = .ok (.dup, 1) := by decide +kernel
theorem dJ7_rangeCheck_23922_54 : decode cJ7_rangeCheck_23922 54 = .ok (.iload_n 1, 1) := by decide +kernel
theorem dJ7_rangeCheck_23922_55 : decode cJ7_rangeCheck_23922 55 = .ok (.invokespecial 70, 3) := by decide +kernel
theorem dJ7_rangeCheck_23922_58 : decode cJ7_rangeCheck_23922 58 = .ok (.athrow, 1) := by decide +kernel
theorem dJ7_rangeCheck_23922_59 : decode cJ7_rangeCheck_23922 59 = .ok (.iload_n 2, 1) := by decide +kernel
theorem dJ7_rangeCheck_23922_60 : decode cJ7_rangeCheck_23922 60 = .ok (.iload_n 0, 1) := by decide +kernel
theorem dJ7_rangeCheck_23922_61 : decode cJ7_rangeCheck_23922 61 = .ok (.if_icmp .le 12, 3) := by decide +kernel
theorem dJ7_rangeCheck_23922_64 : decode cJ7_rangeCheck_23922 64 = .ok (.new 68, 3) := by decide +kernel
theorem dJ7_rangeCheck_23922_67 : decode cJ7_rangeCheck_23922 67 = .ok (.dup, 1) := by decide +kernel
theorem dJ7_rangeCheck_23922_68 : decode cJ7_rangeCheck_23922 68 = .ok (.iload_n 2, 1) := by decide +kernel
theorem dJ7_rangeCheck_23922_69 : decode cJ7_rangeCheck_23922 69 = .ok (.invokespecial 70, 3) := by decide +kernel
theorem dJ7_rangeCheck_23922_72 : decode cJ7_rangeCheck_23922 72 = .ok (.athrow, 1) := by decide +kernel
theorem dJ7_rangeCheck_23922_73 : decode cJ7_rangeCheck_23922 73 = .ok (.return_, 1) := by decide +kernel
theorem dJ7_fill_53178_0 : decode cJ7_fill_53178 0 = .ok (.iconst 0, 1) := by decide +kernel
theorem dJ7_fill_53178_1 : decode cJ7_fill_53178 1 = .ok (.istore_n 2, 1) := by decide +kernel
theorem dJ7_fill_53178_2 : decode cJ7_fill_53178 2 = .ok (.aload_n 0, 1) := by decide +kernel
theorem dJ7_fill_53178_3 : decode cJ7_fill_53178 3 = .ok (.arraylength, 1) := by decide +kernel
theorem dJ7_fill_53178_4 : decode cJ7_fill_53178 4 = .ok (.istore_n 3, 1) := by decide +kernel
theorem dJ7_fill_53178_5 : decode cJ7_fill_53178 5 = .ok (.iload_n 2, 1) := by decide +kernel
theorem dJ7_fill_53178_6 : decode cJ7_fill_53178 6 = .ok (.iload_n 3, 1) := by decide +kernel
theorem dJ7_fill_53178_7 : decode cJ7_fill_53178 7 = .ok (.if_icmp .ge 13, 3) := by decide +kernel
theorem dJ7_fill_53178_10 : decode cJ7_fill_53178 10 = .ok (.aload_n 0, 1) := by decide +kernel
theorem dJ7_fill_53178_11 : decode cJ7_fill_53178 11 = .ok (.iload_n 2, 1) := by decide +kernel
theorem dJ7_fill_53178_12 : decode cJ7_fill_53178 12 = .ok (.iload_n 1, 1) := by decide +kernel
theorem dJ7_fill_53178_13 : decode cJ7_fill_53178 13 = .ok (.iastore, 1) := by decide +kernel
theorem dJ7_fill_53178_14 : decode cJ7_fill_53178 14 = .ok (.iinc 2 1, 3) := by decide +kernel
theorem dJ7_fill_53178_17 : decode cJ7_fill_53178 17 = .ok (.goto (-12), 3) := by decide +kernel
theorem dJ7_fill_53178_20 : decode cJ7_fill_53178 20 = .ok (.return_, 1) := by decide +kernel
theorem dJ7_fill_fda19_0 : decode cJ7_fill_fda19 0 = .ok (.aload_n 0, 1) := by decide +kernel
theorem dJ7_fill_fda19_1 : decode cJ7_fill_fda19 1 = .ok (.arraylength, 1) := by decide +kernel
theorem dJ7_fill_fda19_2 : decode cJ7_fill_fda19 2 = .ok (.iload_n 1, 1) := by decide +kernel
theorem dJ7_fill_fda19_3 : decode cJ7_fill_fda19 3 = .ok (.iload_n 2, 1) := by decide +kernel
theorem dJ7_fill_fda19_4 : decode cJ7_fill_fda19 4 = .ok (.invokestatic 13, 3) := by decide +kernel
theorem dJ7_fill_fda19_7 : decode cJ7_fill_fda19 7 = .ok (.iload_n 1, 1) := by decide +kernel
theorem dJ7_fill_fda19_8 : decode cJ7_fill_fda19 8 = .ok (.istore 4, 2) := by decide +kernel
theorem dJ7_fill_fda19_10 : decode cJ7_fill_fda19 10 = .ok (.iload 4, 2) := by decide +kernel
theorem dJ7_fill_fda19_12 : decode cJ7_fill_fda19 12 = .ok (.iload_n 2, 1) := by decide +kernel
theorem dJ7_fill_fda19_13 : decode cJ7_fill_fda19 13 = .ok (.if_icmp .ge 14, 3) := by decide +kernel
theorem dJ7_fill_fda19_16 : decode cJ7_fill_fda19 16 = .ok (.aload_n 0, 1) := by decide +kernel
theorem dJ7_fill_fda19_17 : decode cJ7_fill_fda19 17 = .ok (.iload 4, 2) := by decide +kernel
theorem dJ7_fill_fda19_19 : decode cJ7_fill_fda19 19 = .ok (.iload_n 3, 1) := by decide +kernel
theorem dJ7_fill_fda19_20 : decode cJ7_fill_fda19 20 = .ok (.iastore, 1) := by decide +kernel
theorem dJ7_fill_fda19_21 : decode cJ7_fill_fda19 21 = .ok (.iinc 4 1, 3) := by decide +kernel
theorem dJ7_fill_fda19_24 : decode cJ7_fill_fda19 24 = .ok (.goto (-14), 3) := by decide +kernel
theorem dJ7_fill_fda19_27 : decode cJ7_fill_fda19 27 = .ok (.return_, 1) := by decide +kernel
theorem dJ3_checkIndex_8e157_0 : decode cJ3_checkIndex_8e157 0 = .ok (.iload_n 0, 1) := by decide +kernel
theorem dJ3_checkIndex_8e157_1 : decode cJ3_checkIndex_8e157 1 = .ok (.ifCond .lt 8, 3) := by decide +kernel
theorem dJ3_checkIndex_8e157_4 : decode cJ3_checkIndex_8e157 4 = .ok (.iload_n 0, 1) := by decide +kernel
theorem dJ3_checkIndex_8e157_5 : decode cJ3_checkIndex_8e157 5 = .ok (.iload_n 1, 1) := by decide +kernel
theorem dJ3_checkIndex_8e157_6 : decode cJ3_checkIndex_8e157 6 = .ok (.if_icmp .lt 10, 3) := by decide +kernel
theorem dJ3_checkIndex_8e157_9 : decode cJ3_checkIndex_8e157 9 = .ok (.aload_n 2, 1) := by decide +kernel
theorem dJ3_checkIndex_8e157_10 : decode cJ3_checkIndex_8e157 10 = .ok (.iload_n 0, 1) := by decide +kernel
theorem dJ3_checkIndex_8e157_11 : decode cJ3_checkIndex_8e157 11 = .ok (.iload_n 1, 1) := by decide +kernel
theorem dJ3_checkIndex_8e157_12 : decode cJ3_checkIndex_8e157 12 = .ok (.invokestatic 95, 3) := by decide +kernel
theorem dJ3_checkIndex_8e157_15 : decode cJ3_checkIndex_8e157 15 = .ok (.athrow, 1) := by decide +kernel
theorem dJ3_checkIndex_8e157_16 : decode cJ3_checkIndex_8e157 16 = .ok (.iload_n 0, 1) := by decide +kernel
theorem dJ3_checkIndex_8e157_17 : decode cJ3_checkIndex_8e157 17 = .ok (.ireturn, 1) := by decide +kernel
theorem dL_law_0 : decode cL_law 0 = .ok (.new 7, 3) := by decide +kernel
theorem dL_law_3 : decode cL_law 3 = .ok (.dup, 1) := by decide +kernel
theorem dL_law_4 : decode cL_law 4 = .ok (.invokespecial 9, 3) := by decide +kernel
theorem dL_law_7 : decode cL_law 7 = .ok (.astore_n 1, 1) := by decide +kernel
theorem dL_law_8 : decode cL_law 8 = .ok (.new 10, 3) := by decide +kernel
theorem dL_law_11 : decode cL_law 11 = .ok (.dup, 1) := by decide +kernel
theorem dL_law_12 : decode cL_law 12 = .ok (.invokespecial 12, 3) := by decide +kernel
theorem dL_law_15 : decode cL_law 15 = .ok (.astore_n 2, 1) := by decide +kernel
theorem dL_law_16 : decode cL_law 16 = .ok (.iconst 0, 1) := by decide +kernel
theorem dL_law_17 : decode cL_law 17 = .ok (.istore_n 3, 1) := by decide +kernel
theorem dL_law_18 : decode cL_law 18 = .ok (.iload_n 3, 1) := by decide +kernel
theorem dL_law_19 : decode cL_law 19 = .ok (.aload_n 0, 1) := by decide +kernel
theorem dL_law_20 : decode cL_law 20 = .ok (.arraylength, 1) := by decide +kernel
theorem dL_law_21 : decode cL_law 21 = .ok (.bipush 6, 2) := by decide +kernel
theorem dL_law_23 : decode cL_law 23 = .ok (.isub, 1) := by decide +kernel
theorem dL_law_24 : decode cL_law 24 = .ok (.if_icmp .gt 920, 3) := by decide +kernel
theorem dL_law_27 : decode cL_law 27 = .ok (.aload_n 0, 1) := by decide +kernel
theorem dL_law_28 : decode cL_law 28 = .ok (.iload_n 3, 1) := by decide +kernel
theorem dL_law_29 : decode cL_law 29 = .ok (.iaload, 1) := by decide +kernel
theorem dL_law_30 : decode cL_law 30 = .ok (.bipush 31, 2) := by decide +kernel
theorem dL_law_32 : decode cL_law 32 = .ok (.iand, 1) := by decide +kernel
theorem dL_law_33 : decode cL_law 33 = .ok (.tableswitch 905 0 29 #[135, 158, 171, 184, 197, 230, 263, 286, 309, 352, 385, 428, 451, 464, 487, 510, 543, 576, 599, 622, 645, 678, 691, 704, 727, 750, 813, 856, 869, 882], 135) := by decide +kernel
theorem dL_law_168 : decode cL_law 168 = .ok (.aload_n 1, 1) := by decide +kernel
theorem dL_law_169 : decode cL_law 169 = .ok (.aload_n 0, 1) := by decide +kernel
theorem dL_law_170 : decode cL_law 170 = .ok (.iload_n 3, 1) := by decide +kernel
theorem dL_law_171 : decode cL_law 171 = .ok (.iconst 1, 1) := by decide +kernel
theorem dL_law_172 : decode cL_law 172 = .ok (.iadd, 1) := by decide +kernel
theorem dL_law_173 : decode cL_law 173 = .ok (.iaload, 1) := by decide +kernel
theorem dL_law_174 : decode cL_law 174 = .ok (.invokevirtual 13, 3) := by decide +kernel
theorem dL_law_177 : decode cL_law 177 = .ok (.aload_n 2, 1) := by decide +kernel
theorem dL_law_178 : decode cL_law 178 = .ok (.aload_n 0, 1) := by decide +kernel
theorem dL_law_179 : decode cL_law 179 = .ok (.iload_n 3, 1) := by decide +kernel
theorem dL_law_180 : decode cL_law 180 = .ok (.iconst 1, 1) := by decide +kernel
theorem dL_law_181 : decode cL_law 181 = .ok (.iadd, 1) := by decide +kernel
theorem dL_law_182 : decode cL_law 182 = .ok (.iaload, 1) := by decide +kernel
theorem dL_law_183 : decode cL_law 183 = .ok (.invokevirtual 17, 3) := by decide +kernel
theorem dL_law_186 : decode cL_law 186 = .ok (.if_icmp .eq 752, 3) := by decide +kernel
theorem dL_law_189 : decode cL_law 189 = .ok (.iconst 0, 1) := by decide +kernel
theorem dL_law_190 : decode cL_law 190 = .ok (.ireturn, 1) := by decide +kernel
theorem dL_law_191 : decode cL_law 191 = .ok (.aload_n 1, 1) := by decide +kernel
theorem dL_law_192 : decode cL_law 192 = .ok (.invokevirtual 18, 3) := by decide +kernel
theorem dL_law_195 : decode cL_law 195 = .ok (.aload_n 2, 1) := by decide +kernel
theorem dL_law_196 : decode cL_law 196 = .ok (.invokevirtual 22, 3) := by decide +kernel
theorem dL_law_199 : decode cL_law 199 = .ok (.if_icmp .eq 739, 3) := by decide +kernel
theorem dL_law_202 : decode cL_law 202 = .ok (.iconst 0, 1) := by decide +kernel
theorem dL_law_203 : decode cL_law 203 = .ok (.ireturn, 1) := by decide +kernel
theorem dL_law_204 : decode cL_law 204 = .ok (.aload_n 1, 1) := by decide +kernel
theorem dL_law_205 : decode cL_law 205 = .ok (.invokevirtual 23, 3) := by decide +kernel
theorem dL_law_208 : decode cL_law 208 = .ok (.aload_n 2, 1) := by decide +kernel
theorem dL_law_209 : decode cL_law 209 = .ok (.invokevirtual 26, 3) := by decide +kernel
theorem dL_law_212 : decode cL_law 212 = .ok (.if_icmp .eq 726, 3) := by decide +kernel
theorem dL_law_215 : decode cL_law 215 = .ok (.iconst 0, 1) := by decide +kernel
theorem dL_law_216 : decode cL_law 216 = .ok (.ireturn, 1) := by decide +kernel
theorem dL_law_217 : decode cL_law 217 = .ok (.aload_n 1, 1) := by decide +kernel
theorem dL_law_218 : decode cL_law 218 = .ok (.invokevirtual 27, 3) := by decide +kernel
theorem dL_law_221 : decode cL_law 221 = .ok (.aload_n 2, 1) := by decide +kernel
theorem dL_law_222 : decode cL_law 222 = .ok (.invokevirtual 30, 3) := by decide +kernel
theorem dL_law_225 : decode cL_law 225 = .ok (.if_icmp .eq 713, 3) := by decide +kernel
theorem dL_law_228 : decode cL_law 228 = .ok (.iconst 0, 1) := by decide +kernel
theorem dL_law_229 : decode cL_law 229 = .ok (.ireturn, 1) := by decide +kernel
theorem dL_law_230 : decode cL_law 230 = .ok (.aload_n 1, 1) := by decide +kernel
theorem dL_law_231 : decode cL_law 231 = .ok (.aload_n 0, 1) := by decide +kernel
theorem dL_law_232 : decode cL_law 232 = .ok (.iload_n 3, 1) := by decide +kernel
theorem dL_law_233 : decode cL_law 233 = .ok (.iconst 1, 1) := by decide +kernel
theorem dL_law_234 : decode cL_law 234 = .ok (.iadd, 1) := by decide +kernel
theorem dL_law_235 : decode cL_law 235 = .ok (.iaload, 1) := by decide +kernel
theorem dL_law_236 : decode cL_law 236 = .ok (.aload_n 0, 1) := by decide +kernel
theorem dL_law_237 : decode cL_law 237 = .ok (.iload_n 3, 1) := by decide +kernel
theorem dL_law_238 : decode cL_law 238 = .ok (.iconst 2, 1) := by decide +kernel
theorem dL_law_239 : decode cL_law 239 = .ok (.iadd, 1) := by decide +kernel
theorem dL_law_240 : decode cL_law 240 = .ok (.iaload, 1) := by decide +kernel
theorem dL_law_241 : decode cL_law 241 = .ok (.invokevirtual 31, 3) := by decide +kernel
theorem dL_law_244 : decode cL_law 244 = .ok (.aload_n 2, 1) := by decide +kernel
theorem dL_law_245 : decode cL_law 245 = .ok (.aload_n 0, 1) := by decide +kernel
theorem dL_law_246 : decode cL_law 246 = .ok (.iload_n 3, 1) := by decide +kernel
theorem dL_law_247 : decode cL_law 247 = .ok (.iconst 1, 1) := by decide +kernel
theorem dL_law_248 : decode cL_law 248 = .ok (.iadd, 1) := by decide +kernel
theorem dL_law_249 : decode cL_law 249 = .ok (.iaload, 1) := by decide +kernel
theorem dL_law_250 : decode cL_law 250 = .ok (.aload_n 0, 1) := by decide +kernel
theorem dL_law_251 : decode cL_law 251 = .ok (.iload_n 3, 1) := by decide +kernel
theorem dL_law_252 : decode cL_law 252 = .ok (.iconst 2, 1) := by decide +kernel
theorem dL_law_253 : decode cL_law 253 = .ok (.iadd, 1) := by decide +kernel
theorem dL_law_254 : decode cL_law 254 = .ok (.iaload, 1) := by decide +kernel
theorem dL_law_255 : decode cL_law 255 = .ok (.invokevirtual 35, 3) := by decide +kernel
theorem dL_law_258 : decode cL_law 258 = .ok (.if_icmp .eq 680, 3) := by decide +kernel
theorem dL_law_261 : decode cL_law 261 = .ok (.iconst 0, 1) := by decide +kernel
theorem dL_law_262 : decode cL_law 262 = .ok (.ireturn, 1) := by decide +kernel
theorem dL_law_263 : decode cL_law 263 = .ok (.aload_n 1, 1) := by decide +kernel
theorem dL_law_264 : decode cL_law 264 = .ok (.aload_n 0, 1) := by decide +kernel
theorem dL_law_265 : decode cL_law 265 = .ok (.iload_n 3, 1) := by decide +kernel
theorem dL_law_266 : decode cL_law 266 = .ok (.iconst 1, 1) := by decide +kernel
theorem dL_law_267 : decode cL_law 267 = .ok (.iadd, 1) := by decide +kernel
theorem dL_law_268 : decode cL_law 268 = .ok (.iaload, 1) := by decide +kernel
theorem dL_law_269 : decode cL_law 269 = .ok (.aload_n 0, 1) := by decide +kernel
theorem dL_law_270 : decode cL_law 270 = .ok (.iload_n 3, 1) := by decide +kernel
theorem dL_law_271 : decode cL_law 271 = .ok (.iconst 2, 1) := by decide +kernel
theorem dL_law_272 : decode cL_law 272 = .ok (.iadd, 1) := by decide +kernel
theorem dL_law_273 : decode cL_law 273 = .ok (.iaload, 1) := by decide +kernel
theorem dL_law_274 : decode cL_law 274 = .ok (.invokevirtual 36, 3) := by decide +kernel
theorem dL_law_277 : decode cL_law 277 = .ok (.aload_n 2, 1) := by decide +kernel
theorem dL_law_278 : decode cL_law 278 = .ok (.aload_n 0, 1) := by decide +kernel
theorem dL_law_279 : decode cL_law 279 = .ok (.iload_n 3, 1) := by decide +kernel
theorem dL_law_280 : decode cL_law 280 = .ok (.iconst 1, 1) := by decide +kernel
theorem dL_law_281 : decode cL_law 281 = .ok (.iadd, 1) := by decide +kernel
theorem dL_law_282 : decode cL_law 282 = .ok (.iaload, 1) := by decide +kernel
theorem dL_law_283 : decode cL_law 283 = .ok (.aload_n 0, 1) := by decide +kernel
theorem dL_law_284 : decode cL_law 284 = .ok (.iload_n 3, 1) := by decide +kernel
theorem dL_law_285 : decode cL_law 285 = .ok (.iconst 2, 1) := by decide +kernel
theorem dL_law_286 : decode cL_law 286 = .ok (.iadd, 1) := by decide +kernel
theorem dL_law_287 : decode cL_law 287 = .ok (.iaload, 1) := by decide +kernel
theorem dL_law_288 : decode cL_law 288 = .ok (.invokevirtual 39, 3) := by decide +kernel
theorem dL_law_291 : decode cL_law 291 = .ok (.if_icmp .eq 647, 3) := by decide +kernel
theorem dL_law_294 : decode cL_law 294 = .ok (.iconst 0, 1) := by decide +kernel
theorem dL_law_295 : decode cL_law 295 = .ok (.ireturn, 1) := by decide +kernel
theorem dL_law_296 : decode cL_law 296 = .ok (.aload_n 1, 1) := by decide +kernel
theorem dL_law_297 : decode cL_law 297 = .ok (.aload_n 0, 1) := by decide +kernel
theorem dL_law_298 : decode cL_law 298 = .ok (.iload_n 3, 1) := by decide +kernel
theorem dL_law_299 : decode cL_law 299 = .ok (.iconst 1, 1) := by decide +kernel
theorem dL_law_300 : decode cL_law 300 = .ok (.iadd, 1) := by decide +kernel
theorem dL_law_301 : decode cL_law 301 = .ok (.iaload, 1) := by decide +kernel
theorem dL_law_302 : decode cL_law 302 = .ok (.invokevirtual 40, 3) := by decide +kernel
theorem dL_law_305 : decode cL_law 305 = .ok (.aload_n 2, 1) := by decide +kernel
theorem dL_law_306 : decode cL_law 306 = .ok (.aload_n 0, 1) := by decide +kernel
theorem dL_law_307 : decode cL_law 307 = .ok (.iload_n 3, 1) := by decide +kernel
theorem dL_law_308 : decode cL_law 308 = .ok (.iconst 1, 1) := by decide +kernel
theorem dL_law_309 : decode cL_law 309 = .ok (.iadd, 1) := by decide +kernel
theorem dL_law_310 : decode cL_law 310 = .ok (.iaload, 1) := by decide +kernel
theorem dL_law_311 : decode cL_law 311 = .ok (.invokevirtual 43, 3) := by decide +kernel
theorem dL_law_314 : decode cL_law 314 = .ok (.if_icmp .eq 624, 3) := by decide +kernel
theorem dL_law_317 : decode cL_law 317 = .ok (.iconst 0, 1) := by decide +kernel
theorem dL_law_318 : decode cL_law 318 = .ok (.ireturn, 1) := by decide +kernel
theorem dL_law_319 : decode cL_law 319 = .ok (.aload_n 1, 1) := by decide +kernel
theorem dL_law_320 : decode cL_law 320 = .ok (.aload_n 0, 1) := by decide +kernel
theorem dL_law_321 : decode cL_law 321 = .ok (.iload_n 3, 1) := by decide +kernel
theorem dL_law_322 : decode cL_law 322 = .ok (.iconst 1, 1) := by decide +kernel
theorem dL_law_323 : decode cL_law 323 = .ok (.iadd, 1) := by decide +kernel
theorem dL_law_324 : decode cL_law 324 = .ok (.iaload, 1) := by decide +kernel
theorem dL_law_325 : decode cL_law 325 = .ok (.invokevirtual 44, 3) := by decide +kernel
theorem dL_law_328 : decode cL_law 328 = .ok (.aload_n 2, 1) := by decide +kernel
theorem dL_law_329 : decode cL_law 329 = .ok (.aload_n 0, 1) := by decide +kernel
theorem dL_law_330 : decode cL_law 330 = .ok (.iload_n 3, 1) := by decide +kernel
theorem dL_law_331 : decode cL_law 331 = .ok (.iconst 1, 1) := by decide +kernel
theorem dL_law_332 : decode cL_law 332 = .ok (.iadd, 1) := by decide +kernel
theorem dL_law_333 : decode cL_law 333 = .ok (.iaload, 1) := by decide +kernel
theorem dL_law_334 : decode cL_law 334 = .ok (.invokevirtual 47, 3) := by decide +kernel
theorem dL_law_337 : decode cL_law 337 = .ok (.if_icmp .eq 601, 3) := by decide +kernel
theorem dL_law_340 : decode cL_law 340 = .ok (.iconst 0, 1) := by decide +kernel
theorem dL_law_341 : decode cL_law 341 = .ok (.ireturn, 1) := by decide +kernel
theorem dL_law_342 : decode cL_law 342 = .ok (.aload_n 1, 1) := by decide +kernel
theorem dL_law_343 : decode cL_law 343 = .ok (.aload_n 0, 1) := by decide +kernel
theorem dL_law_344 : decode cL_law 344 = .ok (.iload_n 3, 1) := by decide +kernel
theorem dL_law_345 : decode cL_law 345 = .ok (.iconst 1, 1) := by decide +kernel
theorem dL_law_346 : decode cL_law 346 = .ok (.iadd, 1) := by decide +kernel
theorem dL_law_347 : decode cL_law 347 = .ok (.iaload, 1) := by decide +kernel
theorem dL_law_348 : decode cL_law 348 = .ok (.aload_n 0, 1) := by decide +kernel
theorem dL_law_349 : decode cL_law 349 = .ok (.iload_n 3, 1) := by decide +kernel
theorem dL_law_350 : decode cL_law 350 = .ok (.iconst 2, 1) := by decide +kernel
theorem dL_law_351 : decode cL_law 351 = .ok (.iadd, 1) := by decide +kernel
theorem dL_law_352 : decode cL_law 352 = .ok (.iaload, 1) := by decide +kernel
theorem dL_law_353 : decode cL_law 353 = .ok (.aload_n 0, 1) := by decide +kernel
theorem dL_law_354 : decode cL_law 354 = .ok (.iload_n 3, 1) := by decide +kernel
theorem dL_law_355 : decode cL_law 355 = .ok (.iconst 3, 1) := by decide +kernel
theorem dL_law_356 : decode cL_law 356 = .ok (.iadd, 1) := by decide +kernel
theorem dL_law_357 : decode cL_law 357 = .ok (.iaload, 1) := by decide +kernel
theorem dL_law_358 : decode cL_law 358 = .ok (.invokevirtual 48, 3) := by decide +kernel
theorem dL_law_361 : decode cL_law 361 = .ok (.aload_n 2, 1) := by decide +kernel
theorem dL_law_362 : decode cL_law 362 = .ok (.aload_n 0, 1) := by decide +kernel
theorem dL_law_363 : decode cL_law 363 = .ok (.iload_n 3, 1) := by decide +kernel
theorem dL_law_364 : decode cL_law 364 = .ok (.iconst 1, 1) := by decide +kernel
theorem dL_law_365 : decode cL_law 365 = .ok (.iadd, 1) := by decide +kernel
theorem dL_law_366 : decode cL_law 366 = .ok (.iaload, 1) := by decide +kernel
theorem dL_law_367 : decode cL_law 367 = .ok (.aload_n 0, 1) := by decide +kernel
theorem dL_law_368 : decode cL_law 368 = .ok (.iload_n 3, 1) := by decide +kernel
theorem dL_law_369 : decode cL_law 369 = .ok (.iconst 2, 1) := by decide +kernel
theorem dL_law_370 : decode cL_law 370 = .ok (.iadd, 1) := by decide +kernel
theorem dL_law_371 : decode cL_law 371 = .ok (.iaload, 1) := by decide +kernel
theorem dL_law_372 : decode cL_law 372 = .ok (.aload_n 0, 1) := by decide +kernel
theorem dL_law_373 : decode cL_law 373 = .ok (.iload_n 3, 1) := by decide +kernel
theorem dL_law_374 : decode cL_law 374 = .ok (.iconst 3, 1) := by decide +kernel
theorem dL_law_375 : decode cL_law 375 = .ok (.iadd, 1) := by decide +kernel
theorem dL_law_376 : decode cL_law 376 = .ok (.iaload, 1) := by decide +kernel
theorem dL_law_377 : decode cL_law 377 = .ok (.invokevirtual 52, 3) := by decide +kernel
theorem dL_law_380 : decode cL_law 380 = .ok (.if_icmp .eq 558, 3) := by decide +kernel
theorem dL_law_383 : decode cL_law 383 = .ok (.iconst 0, 1) := by decide +kernel
theorem dL_law_384 : decode cL_law 384 = .ok (.ireturn, 1) := by decide +kernel
theorem dL_law_385 : decode cL_law 385 = .ok (.aload_n 1, 1) := by decide +kernel
theorem dL_law_386 : decode cL_law 386 = .ok (.aload_n 0, 1) := by decide +kernel
theorem dL_law_387 : decode cL_law 387 = .ok (.iload_n 3, 1) := by decide +kernel
theorem dL_law_388 : decode cL_law 388 = .ok (.iconst 1, 1) := by decide +kernel
theorem dL_law_389 : decode cL_law 389 = .ok (.iadd, 1) := by decide +kernel
theorem dL_law_390 : decode cL_law 390 = .ok (.iaload, 1) := by decide +kernel
theorem dL_law_391 : decode cL_law 391 = .ok (.aload_n 0, 1) := by decide +kernel
theorem dL_law_392 : decode cL_law 392 = .ok (.iload_n 3, 1) := by decide +kernel
theorem dL_law_393 : decode cL_law 393 = .ok (.iconst 2, 1) := by decide +kernel
theorem dL_law_394 : decode cL_law 394 = .ok (.iadd, 1) := by decide +kernel
theorem dL_law_395 : decode cL_law 395 = .ok (.iaload, 1) := by decide +kernel
theorem dL_law_396 : decode cL_law 396 = .ok (.invokevirtual 53, 3) := by decide +kernel
theorem dL_law_399 : decode cL_law 399 = .ok (.aload_n 2, 1) := by decide +kernel
theorem dL_law_400 : decode cL_law 400 = .ok (.aload_n 0, 1) := by decide +kernel
theorem dL_law_401 : decode cL_law 401 = .ok (.iload_n 3, 1) := by decide +kernel
theorem dL_law_402 : decode cL_law 402 = .ok (.iconst 1, 1) := by decide +kernel
theorem dL_law_403 : decode cL_law 403 = .ok (.iadd, 1) := by decide +kernel
theorem dL_law_404 : decode cL_law 404 = .ok (.iaload, 1) := by decide +kernel
theorem dL_law_405 : decode cL_law 405 = .ok (.aload_n 0, 1) := by decide +kernel
theorem dL_law_406 : decode cL_law 406 = .ok (.iload_n 3, 1) := by decide +kernel
theorem dL_law_407 : decode cL_law 407 = .ok (.iconst 2, 1) := by decide +kernel
theorem dL_law_408 : decode cL_law 408 = .ok (.iadd, 1) := by decide +kernel
theorem dL_law_409 : decode cL_law 409 = .ok (.iaload, 1) := by decide +kernel
theorem dL_law_410 : decode cL_law 410 = .ok (.invokevirtual 56, 3) := by decide +kernel
theorem dL_law_413 : decode cL_law 413 = .ok (.if_icmp .eq 525, 3) := by decide +kernel
theorem dL_law_416 : decode cL_law 416 = .ok (.iconst 0, 1) := by decide +kernel
theorem dL_law_417 : decode cL_law 417 = .ok (.ireturn, 1) := by decide +kernel
theorem dL_law_418 : decode cL_law 418 = .ok (.aload_n 1, 1) := by decide +kernel
theorem dL_law_419 : decode cL_law 419 = .ok (.aload_n 0, 1) := by decide +kernel
theorem dL_law_420 : decode cL_law 420 = .ok (.iload_n 3, 1) := by decide +kernel
theorem dL_law_421 : decode cL_law 421 = .ok (.iconst 1, 1) := by decide +kernel
theorem dL_law_422 : decode cL_law 422 = .ok (.iadd, 1) := by decide +kernel
theorem dL_law_423 : decode cL_law 423 = .ok (.iaload, 1) := by decide +kernel
theorem dL_law_424 : decode cL_law 424 = .ok (.aload_n 0, 1) := by decide +kernel
theorem dL_law_425 : decode cL_law 425 = .ok (.iload_n 3, 1) := by decide +kernel
theorem dL_law_426 : decode cL_law 426 = .ok (.iconst 2, 1) := by decide +kernel
theorem dL_law_427 : decode cL_law 427 = .ok (.iadd, 1) := by decide +kernel
theorem dL_law_428 : decode cL_law 428 = .ok (.iaload, 1) := by decide +kernel
theorem dL_law_429 : decode cL_law 429 = .ok (.aload_n 0, 1) := by decide +kernel
theorem dL_law_430 : decode cL_law 430 = .ok (.iload_n 3, 1) := by decide +kernel
theorem dL_law_431 : decode cL_law 431 = .ok (.iconst 3, 1) := by decide +kernel
theorem dL_law_432 : decode cL_law 432 = .ok (.iadd, 1) := by decide +kernel
theorem dL_law_433 : decode cL_law 433 = .ok (.iaload, 1) := by decide +kernel
theorem dL_law_434 : decode cL_law 434 = .ok (.invokevirtual 57, 3) := by decide +kernel
theorem dL_law_437 : decode cL_law 437 = .ok (.aload_n 2, 1) := by decide +kernel
theorem dL_law_438 : decode cL_law 438 = .ok (.aload_n 0, 1) := by decide +kernel
theorem dL_law_439 : decode cL_law 439 = .ok (.iload_n 3, 1) := by decide +kernel
theorem dL_law_440 : decode cL_law 440 = .ok (.iconst 1, 1) := by decide +kernel
theorem dL_law_441 : decode cL_law 441 = .ok (.iadd, 1) := by decide +kernel
theorem dL_law_442 : decode cL_law 442 = .ok (.iaload, 1) := by decide +kernel
theorem dL_law_443 : decode cL_law 443 = .ok (.aload_n 0, 1) := by decide +kernel
theorem dL_law_444 : decode cL_law 444 = .ok (.iload_n 3, 1) := by decide +kernel
theorem dL_law_445 : decode cL_law 445 = .ok (.iconst 2, 1) := by decide +kernel
theorem dL_law_446 : decode cL_law 446 = .ok (.iadd, 1) := by decide +kernel
theorem dL_law_447 : decode cL_law 447 = .ok (.iaload, 1) := by decide +kernel
theorem dL_law_448 : decode cL_law 448 = .ok (.aload_n 0, 1) := by decide +kernel
theorem dL_law_449 : decode cL_law 449 = .ok (.iload_n 3, 1) := by decide +kernel
theorem dL_law_450 : decode cL_law 450 = .ok (.iconst 3, 1) := by decide +kernel
theorem dL_law_451 : decode cL_law 451 = .ok (.iadd, 1) := by decide +kernel
theorem dL_law_452 : decode cL_law 452 = .ok (.iaload, 1) := by decide +kernel
theorem dL_law_453 : decode cL_law 453 = .ok (.invokevirtual 60, 3) := by decide +kernel
theorem dL_law_456 : decode cL_law 456 = .ok (.if_icmp .eq 482, 3) := by decide +kernel
theorem dL_law_459 : decode cL_law 459 = .ok (.iconst 0, 1) := by decide +kernel
theorem dL_law_460 : decode cL_law 460 = .ok (.ireturn, 1) := by decide +kernel
theorem dL_law_461 : decode cL_law 461 = .ok (.aload_n 1, 1) := by decide +kernel
theorem dL_law_462 : decode cL_law 462 = .ok (.aload_n 0, 1) := by decide +kernel
theorem dL_law_463 : decode cL_law 463 = .ok (.iload_n 3, 1) := by decide +kernel
theorem dL_law_464 : decode cL_law 464 = .ok (.iconst 1, 1) := by decide +kernel
theorem dL_law_465 : decode cL_law 465 = .ok (.iadd, 1) := by decide +kernel
theorem dL_law_466 : decode cL_law 466 = .ok (.iaload, 1) := by decide +kernel
theorem dL_law_467 : decode cL_law 467 = .ok (.invokevirtual 61, 3) := by decide +kernel
theorem dL_law_470 : decode cL_law 470 = .ok (.aload_n 2, 1) := by decide +kernel
theorem dL_law_471 : decode cL_law 471 = .ok (.aload_n 0, 1) := by decide +kernel
theorem dL_law_472 : decode cL_law 472 = .ok (.iload_n 3, 1) := by decide +kernel
theorem dL_law_473 : decode cL_law 473 = .ok (.iconst 1, 1) := by decide +kernel
theorem dL_law_474 : decode cL_law 474 = .ok (.iadd, 1) := by decide +kernel
theorem dL_law_475 : decode cL_law 475 = .ok (.iaload, 1) := by decide +kernel
theorem dL_law_476 : decode cL_law 476 = .ok (.invokevirtual 64, 3) := by decide +kernel
theorem dL_law_479 : decode cL_law 479 = .ok (.if_icmp .eq 459, 3) := by decide +kernel
theorem dL_law_482 : decode cL_law 482 = .ok (.iconst 0, 1) := by decide +kernel
theorem dL_law_483 : decode cL_law 483 = .ok (.ireturn, 1) := by decide +kernel
theorem dL_law_484 : decode cL_law 484 = .ok (.aload_n 1, 1) := by decide +kernel
theorem dL_law_485 : decode cL_law 485 = .ok (.invokevirtual 65, 3) := by decide +kernel
theorem dL_law_488 : decode cL_law 488 = .ok (.aload_n 2, 1) := by decide +kernel
theorem dL_law_489 : decode cL_law 489 = .ok (.invokevirtual 68, 3) := by decide +kernel
theorem dL_law_492 : decode cL_law 492 = .ok (.if_icmp .eq 446, 3) := by decide +kernel
theorem dL_law_495 : decode cL_law 495 = .ok (.iconst 0, 1) := by decide +kernel
theorem dL_law_496 : decode cL_law 496 = .ok (.ireturn, 1) := by decide +kernel
theorem dL_law_497 : decode cL_law 497 = .ok (.aload_n 1, 1) := by decide +kernel
theorem dL_law_498 : decode cL_law 498 = .ok (.aload_n 0, 1) := by decide +kernel
theorem dL_law_499 : decode cL_law 499 = .ok (.iload_n 3, 1) := by decide +kernel
theorem dL_law_500 : decode cL_law 500 = .ok (.iconst 1, 1) := by decide +kernel
theorem dL_law_501 : decode cL_law 501 = .ok (.iadd, 1) := by decide +kernel
theorem dL_law_502 : decode cL_law 502 = .ok (.iaload, 1) := by decide +kernel
theorem dL_law_503 : decode cL_law 503 = .ok (.invokevirtual 69, 3) := by decide +kernel
theorem dL_law_506 : decode cL_law 506 = .ok (.aload_n 2, 1) := by decide +kernel
theorem dL_law_507 : decode cL_law 507 = .ok (.aload_n 0, 1) := by decide +kernel
theorem dL_law_508 : decode cL_law 508 = .ok (.iload_n 3, 1) := by decide +kernel
theorem dL_law_509 : decode cL_law 509 = .ok (.iconst 1, 1) := by decide +kernel
theorem dL_law_510 : decode cL_law 510 = .ok (.iadd, 1) := by decide +kernel
theorem dL_law_511 : decode cL_law 511 = .ok (.iaload, 1) := by decide +kernel
theorem dL_law_512 : decode cL_law 512 = .ok (.invokevirtual 72, 3) := by decide +kernel
theorem dL_law_515 : decode cL_law 515 = .ok (.if_icmp .eq 423, 3) := by decide +kernel
theorem dL_law_518 : decode cL_law 518 = .ok (.iconst 0, 1) := by decide +kernel
theorem dL_law_519 : decode cL_law 519 = .ok (.ireturn, 1) := by decide +kernel
theorem dL_law_520 : decode cL_law 520 = .ok (.aload_n 1, 1) := by decide +kernel
theorem dL_law_521 : decode cL_law 521 = .ok (.aload_n 0, 1) := by decide +kernel
theorem dL_law_522 : decode cL_law 522 = .ok (.iload_n 3, 1) := by decide +kernel
theorem dL_law_523 : decode cL_law 523 = .ok (.iconst 1, 1) := by decide +kernel
theorem dL_law_524 : decode cL_law 524 = .ok (.iadd, 1) := by decide +kernel
theorem dL_law_525 : decode cL_law 525 = .ok (.iaload, 1) := by decide +kernel
theorem dL_law_526 : decode cL_law 526 = .ok (.invokevirtual 73, 3) := by decide +kernel
theorem dL_law_529 : decode cL_law 529 = .ok (.aload_n 2, 1) := by decide +kernel
theorem dL_law_530 : decode cL_law 530 = .ok (.aload_n 0, 1) := by decide +kernel
theorem dL_law_531 : decode cL_law 531 = .ok (.iload_n 3, 1) := by decide +kernel
theorem dL_law_532 : decode cL_law 532 = .ok (.iconst 1, 1) := by decide +kernel
theorem dL_law_533 : decode cL_law 533 = .ok (.iadd, 1) := by decide +kernel
theorem dL_law_534 : decode cL_law 534 = .ok (.iaload, 1) := by decide +kernel
theorem dL_law_535 : decode cL_law 535 = .ok (.invokevirtual 76, 3) := by decide +kernel
theorem dL_law_538 : decode cL_law 538 = .ok (.if_icmp .eq 400, 3) := by decide +kernel
theorem dL_law_541 : decode cL_law 541 = .ok (.iconst 0, 1) := by decide +kernel
theorem dL_law_542 : decode cL_law 542 = .ok (.ireturn, 1) := by decide +kernel
theorem dL_law_543 : decode cL_law 543 = .ok (.aload_n 1, 1) := by decide +kernel
theorem dL_law_544 : decode cL_law 544 = .ok (.aload_n 0, 1) := by decide +kernel
theorem dL_law_545 : decode cL_law 545 = .ok (.iload_n 3, 1) := by decide +kernel
theorem dL_law_546 : decode cL_law 546 = .ok (.iconst 1, 1) := by decide +kernel
theorem dL_law_547 : decode cL_law 547 = .ok (.iadd, 1) := by decide +kernel
theorem dL_law_548 : decode cL_law 548 = .ok (.iaload, 1) := by decide +kernel
theorem dL_law_549 : decode cL_law 549 = .ok (.aload_n 0, 1) := by decide +kernel
theorem dL_law_550 : decode cL_law 550 = .ok (.iload_n 3, 1) := by decide +kernel
theorem dL_law_551 : decode cL_law 551 = .ok (.iconst 2, 1) := by decide +kernel
theorem dL_law_552 : decode cL_law 552 = .ok (.iadd, 1) := by decide +kernel
theorem dL_law_553 : decode cL_law 553 = .ok (.iaload, 1) := by decide +kernel
theorem dL_law_554 : decode cL_law 554 = .ok (.invokevirtual 77, 3) := by decide +kernel
theorem dL_law_557 : decode cL_law 557 = .ok (.aload_n 2, 1) := by decide +kernel
theorem dL_law_558 : decode cL_law 558 = .ok (.aload_n 0, 1) := by decide +kernel
theorem dL_law_559 : decode cL_law 559 = .ok (.iload_n 3, 1) := by decide +kernel
theorem dL_law_560 : decode cL_law 560 = .ok (.iconst 1, 1) := by decide +kernel
theorem dL_law_561 : decode cL_law 561 = .ok (.iadd, 1) := by decide +kernel
theorem dL_law_562 : decode cL_law 562 = .ok (.iaload, 1) := by decide +kernel
theorem dL_law_563 : decode cL_law 563 = .ok (.aload_n 0, 1) := by decide +kernel
theorem dL_law_564 : decode cL_law 564 = .ok (.iload_n 3, 1) := by decide +kernel
theorem dL_law_565 : decode cL_law 565 = .ok (.iconst 2, 1) := by decide +kernel
theorem dL_law_566 : decode cL_law 566 = .ok (.iadd, 1) := by decide +kernel
theorem dL_law_567 : decode cL_law 567 = .ok (.iaload, 1) := by decide +kernel
theorem dL_law_568 : decode cL_law 568 = .ok (.invokevirtual 80, 3) := by decide +kernel
theorem dL_law_571 : decode cL_law 571 = .ok (.if_icmp .eq 367, 3) := by decide +kernel
theorem dL_law_574 : decode cL_law 574 = .ok (.iconst 0, 1) := by decide +kernel
theorem dL_law_575 : decode cL_law 575 = .ok (.ireturn, 1) := by decide +kernel
theorem dL_law_576 : decode cL_law 576 = .ok (.aload_n 1, 1) := by decide +kernel
theorem dL_law_577 : decode cL_law 577 = .ok (.aload_n 0, 1) := by decide +kernel
theorem dL_law_578 : decode cL_law 578 = .ok (.iload_n 3, 1) := by decide +kernel
theorem dL_law_579 : decode cL_law 579 = .ok (.iconst 1, 1) := by decide +kernel
theorem dL_law_580 : decode cL_law 580 = .ok (.iadd, 1) := by decide +kernel
theorem dL_law_581 : decode cL_law 581 = .ok (.iaload, 1) := by decide +kernel
theorem dL_law_582 : decode cL_law 582 = .ok (.aload_n 0, 1) := by decide +kernel
theorem dL_law_583 : decode cL_law 583 = .ok (.iload_n 3, 1) := by decide +kernel
theorem dL_law_584 : decode cL_law 584 = .ok (.iconst 2, 1) := by decide +kernel
theorem dL_law_585 : decode cL_law 585 = .ok (.iadd, 1) := by decide +kernel
theorem dL_law_586 : decode cL_law 586 = .ok (.iaload, 1) := by decide +kernel
theorem dL_law_587 : decode cL_law 587 = .ok (.invokevirtual 81, 3) := by decide +kernel
theorem dL_law_590 : decode cL_law 590 = .ok (.aload_n 2, 1) := by decide +kernel
theorem dL_law_591 : decode cL_law 591 = .ok (.aload_n 0, 1) := by decide +kernel
theorem dL_law_592 : decode cL_law 592 = .ok (.iload_n 3, 1) := by decide +kernel
theorem dL_law_593 : decode cL_law 593 = .ok (.iconst 1, 1) := by decide +kernel
theorem dL_law_594 : decode cL_law 594 = .ok (.iadd, 1) := by decide +kernel
theorem dL_law_595 : decode cL_law 595 = .ok (.iaload, 1) := by decide +kernel
theorem dL_law_596 : decode cL_law 596 = .ok (.aload_n 0, 1) := by decide +kernel
theorem dL_law_597 : decode cL_law 597 = .ok (.iload_n 3, 1) := by decide +kernel
theorem dL_law_598 : decode cL_law 598 = .ok (.iconst 2, 1) := by decide +kernel
theorem dL_law_599 : decode cL_law 599 = .ok (.iadd, 1) := by decide +kernel
theorem dL_law_600 : decode cL_law 600 = .ok (.iaload, 1) := by decide +kernel
theorem dL_law_601 : decode cL_law 601 = .ok (.invokevirtual 84, 3) := by decide +kernel
theorem dL_law_604 : decode cL_law 604 = .ok (.if_icmp .eq 334, 3) := by decide +kernel
theorem dL_law_607 : decode cL_law 607 = .ok (.iconst 0, 1) := by decide +kernel
theorem dL_law_608 : decode cL_law 608 = .ok (.ireturn, 1) := by decide +kernel
theorem dL_law_609 : decode cL_law 609 = .ok (.aload_n 1, 1) := by decide +kernel
theorem dL_law_610 : decode cL_law 610 = .ok (.aload_n 0, 1) := by decide +kernel
theorem dL_law_611 : decode cL_law 611 = .ok (.iload_n 3, 1) := by decide +kernel
theorem dL_law_612 : decode cL_law 612 = .ok (.iconst 1, 1) := by decide +kernel
theorem dL_law_613 : decode cL_law 613 = .ok (.iadd, 1) := by decide +kernel
theorem dL_law_614 : decode cL_law 614 = .ok (.iaload, 1) := by decide +kernel
theorem dL_law_615 : decode cL_law 615 = .ok (.invokevirtual 85, 3) := by decide +kernel
theorem dL_law_618 : decode cL_law 618 = .ok (.aload_n 2, 1) := by decide +kernel
theorem dL_law_619 : decode cL_law 619 = .ok (.aload_n 0, 1) := by decide +kernel
theorem dL_law_620 : decode cL_law 620 = .ok (.iload_n 3, 1) := by decide +kernel
theorem dL_law_621 : decode cL_law 621 = .ok (.iconst 1, 1) := by decide +kernel
theorem dL_law_622 : decode cL_law 622 = .ok (.iadd, 1) := by decide +kernel
theorem dL_law_623 : decode cL_law 623 = .ok (.iaload, 1) := by decide +kernel
theorem dL_law_624 : decode cL_law 624 = .ok (.invokevirtual 88, 3) := by decide +kernel
theorem dL_law_627 : decode cL_law 627 = .ok (.if_icmp .eq 311, 3) := by decide +kernel
theorem dL_law_630 : decode cL_law 630 = .ok (.iconst 0, 1) := by decide +kernel
theorem dL_law_631 : decode cL_law 631 = .ok (.ireturn, 1) := by decide +kernel
theorem dL_law_632 : decode cL_law 632 = .ok (.aload_n 1, 1) := by decide +kernel
theorem dL_law_633 : decode cL_law 633 = .ok (.aload_n 0, 1) := by decide +kernel
theorem dL_law_634 : decode cL_law 634 = .ok (.iload_n 3, 1) := by decide +kernel
theorem dL_law_635 : decode cL_law 635 = .ok (.iconst 1, 1) := by decide +kernel
theorem dL_law_636 : decode cL_law 636 = .ok (.iadd, 1) := by decide +kernel
theorem dL_law_637 : decode cL_law 637 = .ok (.iaload, 1) := by decide +kernel
theorem dL_law_638 : decode cL_law 638 = .ok (.invokevirtual 89, 3) := by decide +kernel
theorem dL_law_641 : decode cL_law 641 = .ok (.aload_n 2, 1) := by decide +kernel
theorem dL_law_642 : decode cL_law 642 = .ok (.aload_n 0, 1) := by decide +kernel
theorem dL_law_643 : decode cL_law 643 = .ok (.iload_n 3, 1) := by decide +kernel
theorem dL_law_644 : decode cL_law 644 = .ok (.iconst 1, 1) := by decide +kernel
theorem dL_law_645 : decode cL_law 645 = .ok (.iadd, 1) := by decide +kernel
theorem dL_law_646 : decode cL_law 646 = .ok (.iaload, 1) := by decide +kernel
theorem dL_law_647 : decode cL_law 647 = .ok (.invokevirtual 92, 3) := by decide +kernel
theorem dL_law_650 : decode cL_law 650 = .ok (.if_icmp .eq 288, 3) := by decide +kernel
theorem dL_law_653 : decode cL_law 653 = .ok (.iconst 0, 1) := by decide +kernel
theorem dL_law_654 : decode cL_law 654 = .ok (.ireturn, 1) := by decide +kernel
theorem dL_law_655 : decode cL_law 655 = .ok (.aload_n 1, 1) := by decide +kernel
theorem dL_law_656 : decode cL_law 656 = .ok (.aload_n 0, 1) := by decide +kernel
theorem dL_law_657 : decode cL_law 657 = .ok (.iload_n 3, 1) := by decide +kernel
theorem dL_law_658 : decode cL_law 658 = .ok (.iconst 1, 1) := by decide +kernel
theorem dL_law_659 : decode cL_law 659 = .ok (.iadd, 1) := by decide +kernel
theorem dL_law_660 : decode cL_law 660 = .ok (.iaload, 1) := by decide +kernel
theorem dL_law_661 : decode cL_law 661 = .ok (.invokevirtual 93, 3) := by decide +kernel
theorem dL_law_664 : decode cL_law 664 = .ok (.aload_n 2, 1) := by decide +kernel
theorem dL_law_665 : decode cL_law 665 = .ok (.aload_n 0, 1) := by decide +kernel
theorem dL_law_666 : decode cL_law 666 = .ok (.iload_n 3, 1) := by decide +kernel
theorem dL_law_667 : decode cL_law 667 = .ok (.iconst 1, 1) := by decide +kernel
theorem dL_law_668 : decode cL_law 668 = .ok (.iadd, 1) := by decide +kernel
theorem dL_law_669 : decode cL_law 669 = .ok (.iaload, 1) := by decide +kernel
theorem dL_law_670 : decode cL_law 670 = .ok (.invokevirtual 96, 3) := by decide +kernel
theorem dL_law_673 : decode cL_law 673 = .ok (.if_icmp .eq 265, 3) := by decide +kernel
theorem dL_law_676 : decode cL_law 676 = .ok (.iconst 0, 1) := by decide +kernel
theorem dL_law_677 : decode cL_law 677 = .ok (.ireturn, 1) := by decide +kernel
theorem dL_law_678 : decode cL_law 678 = .ok (.aload_n 1, 1) := by decide +kernel
theorem dL_law_679 : decode cL_law 679 = .ok (.aload_n 0, 1) := by decide +kernel
theorem dL_law_680 : decode cL_law 680 = .ok (.iload_n 3, 1) := by decide +kernel
theorem dL_law_681 : decode cL_law 681 = .ok (.iconst 1, 1) := by decide +kernel
theorem dL_law_682 : decode cL_law 682 = .ok (.iadd, 1) := by decide +kernel
theorem dL_law_683 : decode cL_law 683 = .ok (.iaload, 1) := by decide +kernel
theorem dL_law_684 : decode cL_law 684 = .ok (.aload_n 0, 1) := by decide +kernel
theorem dL_law_685 : decode cL_law 685 = .ok (.iload_n 3, 1) := by decide +kernel
theorem dL_law_686 : decode cL_law 686 = .ok (.iconst 2, 1) := by decide +kernel
theorem dL_law_687 : decode cL_law 687 = .ok (.iadd, 1) := by decide +kernel
theorem dL_law_688 : decode cL_law 688 = .ok (.iaload, 1) := by decide +kernel
theorem dL_law_689 : decode cL_law 689 = .ok (.invokevirtual 97, 3) := by decide +kernel
theorem dL_law_692 : decode cL_law 692 = .ok (.aload_n 2, 1) := by decide +kernel
theorem dL_law_693 : decode cL_law 693 = .ok (.aload_n 0, 1) := by decide +kernel
theorem dL_law_694 : decode cL_law 694 = .ok (.iload_n 3, 1) := by decide +kernel
theorem dL_law_695 : decode cL_law 695 = .ok (.iconst 1, 1) := by decide +kernel
theorem dL_law_696 : decode cL_law 696 = .ok (.iadd, 1) := by decide +kernel
theorem dL_law_697 : decode cL_law 697 = .ok (.iaload, 1) := by decide +kernel
theorem dL_law_698 : decode cL_law 698 = .ok (.aload_n 0, 1) := by decide +kernel
theorem dL_law_699 : decode cL_law 699 = .ok (.iload_n 3, 1) := by decide +kernel
theorem dL_law_700 : decode cL_law 700 = .ok (.iconst 2, 1) := by decide +kernel
theorem dL_law_701 : decode cL_law 701 = .ok (.iadd, 1) := by decide +kernel
theorem dL_law_702 : decode cL_law 702 = .ok (.iaload, 1) := by decide +kernel
theorem dL_law_703 : decode cL_law 703 = .ok (.invokevirtual 100, 3) := by decide +kernel
theorem dL_law_706 : decode cL_law 706 = .ok (.if_icmp .eq 232, 3) := by decide +kernel
theorem dL_law_709 : decode cL_law 709 = .ok (.iconst 0, 1) := by decide +kernel
theorem dL_law_710 : decode cL_law 710 = .ok (.ireturn, 1) := by decide +kernel
theorem dL_law_711 : decode cL_law 711 = .ok (.aload_n 1, 1) := by decide +kernel
theorem dL_law_712 : decode cL_law 712 = .ok (.invokevirtual 101, 3) := by decide +kernel
theorem dL_law_715 : decode cL_law 715 = .ok (.aload_n 2, 1) := by decide +kernel
theorem dL_law_716 : decode cL_law 716 = .ok (.invokevirtual 104, 3) := by decide +kernel
theorem dL_law_719 : decode cL_law 719 = .ok (.if_icmp .eq 219, 3) := by decide +kernel
theorem dL_law_722 : decode cL_law 722 = .ok (.iconst 0, 1) := by decide +kernel
theorem dL_law_723 : decode cL_law 723 = .ok (.ireturn, 1) := by decide +kernel
theorem dL_law_724 : decode cL_law 724 = .ok (.aload_n 1, 1) := by decide +kernel
theorem dL_law_725 : decode cL_law 725 = .ok (.invokevirtual 105, 3) := by decide +kernel
theorem dL_law_728 : decode cL_law 728 = .ok (.aload_n 2, 1) := by decide +kernel
theorem dL_law_729 : decode cL_law 729 = .ok (.invokevirtual 108, 3) := by decide +kernel
theorem dL_law_732 : decode cL_law 732 = .ok (.if_icmp .eq 206, 3) := by decide +kernel
theorem dL_law_735 : decode cL_law 735 = .ok (.iconst 0, 1) := by decide +kernel
theorem dL_law_736 : decode cL_law 736 = .ok (.ireturn, 1) := by decide +kernel
theorem dL_law_737 : decode cL_law 737 = .ok (.aload_n 1, 1) := by decide +kernel
theorem dL_law_738 : decode cL_law 738 = .ok (.aload_n 0, 1) := by decide +kernel
theorem dL_law_739 : decode cL_law 739 = .ok (.iload_n 3, 1) := by decide +kernel
theorem dL_law_740 : decode cL_law 740 = .ok (.iconst 1, 1) := by decide +kernel
theorem dL_law_741 : decode cL_law 741 = .ok (.iadd, 1) := by decide +kernel
theorem dL_law_742 : decode cL_law 742 = .ok (.iaload, 1) := by decide +kernel
theorem dL_law_743 : decode cL_law 743 = .ok (.invokevirtual 109, 3) := by decide +kernel
theorem dL_law_746 : decode cL_law 746 = .ok (.aload_n 2, 1) := by decide +kernel
theorem dL_law_747 : decode cL_law 747 = .ok (.aload_n 0, 1) := by decide +kernel
theorem dL_law_748 : decode cL_law 748 = .ok (.iload_n 3, 1) := by decide +kernel
theorem dL_law_749 : decode cL_law 749 = .ok (.iconst 1, 1) := by decide +kernel
theorem dL_law_750 : decode cL_law 750 = .ok (.iadd, 1) := by decide +kernel
theorem dL_law_751 : decode cL_law 751 = .ok (.iaload, 1) := by decide +kernel
theorem dL_law_752 : decode cL_law 752 = .ok (.invokevirtual 112, 3) := by decide +kernel
theorem dL_law_755 : decode cL_law 755 = .ok (.if_icmp .eq 183, 3) := by decide +kernel
theorem dL_law_758 : decode cL_law 758 = .ok (.iconst 0, 1) := by decide +kernel
theorem dL_law_759 : decode cL_law 759 = .ok (.ireturn, 1) := by decide +kernel
theorem dL_law_760 : decode cL_law 760 = .ok (.aload_n 1, 1) := by decide +kernel
theorem dL_law_761 : decode cL_law 761 = .ok (.aload_n 0, 1) := by decide +kernel
theorem dL_law_762 : decode cL_law 762 = .ok (.iload_n 3, 1) := by decide +kernel
theorem dL_law_763 : decode cL_law 763 = .ok (.iconst 1, 1) := by decide +kernel
theorem dL_law_764 : decode cL_law 764 = .ok (.iadd, 1) := by decide +kernel
theorem dL_law_765 : decode cL_law 765 = .ok (.iaload, 1) := by decide +kernel
theorem dL_law_766 : decode cL_law 766 = .ok (.invokevirtual 113, 3) := by decide +kernel
theorem dL_law_769 : decode cL_law 769 = .ok (.aload_n 2, 1) := by decide +kernel
theorem dL_law_770 : decode cL_law 770 = .ok (.aload_n 0, 1) := by decide +kernel
theorem dL_law_771 : decode cL_law 771 = .ok (.iload_n 3, 1) := by decide +kernel
theorem dL_law_772 : decode cL_law 772 = .ok (.iconst 1, 1) := by decide +kernel
theorem dL_law_773 : decode cL_law 773 = .ok (.iadd, 1) := by decide +kernel
theorem dL_law_774 : decode cL_law 774 = .ok (.iaload, 1) := by decide +kernel
theorem dL_law_775 : decode cL_law 775 = .ok (.invokevirtual 116, 3) := by decide +kernel
theorem dL_law_778 : decode cL_law 778 = .ok (.if_icmp .eq 160, 3) := by decide +kernel
theorem dL_law_781 : decode cL_law 781 = .ok (.iconst 0, 1) := by decide +kernel
theorem dL_law_782 : decode cL_law 782 = .ok (.ireturn, 1) := by decide +kernel
theorem dL_law_783 : decode cL_law 783 = .ok (.aload_n 1, 1) := by decide +kernel
theorem dL_law_784 : decode cL_law 784 = .ok (.aload_n 0, 1) := by decide +kernel
theorem dL_law_785 : decode cL_law 785 = .ok (.iload_n 3, 1) := by decide +kernel
theorem dL_law_786 : decode cL_law 786 = .ok (.iconst 1, 1) := by decide +kernel
theorem dL_law_787 : decode cL_law 787 = .ok (.iadd, 1) := by decide +kernel
theorem dL_law_788 : decode cL_law 788 = .ok (.iaload, 1) := by decide +kernel
theorem dL_law_789 : decode cL_law 789 = .ok (.aload_n 0, 1) := by decide +kernel
theorem dL_law_790 : decode cL_law 790 = .ok (.iload_n 3, 1) := by decide +kernel
theorem dL_law_791 : decode cL_law 791 = .ok (.iconst 2, 1) := by decide +kernel
theorem dL_law_792 : decode cL_law 792 = .ok (.iadd, 1) := by decide +kernel
theorem dL_law_793 : decode cL_law 793 = .ok (.iaload, 1) := by decide +kernel
theorem dL_law_794 : decode cL_law 794 = .ok (.aload_n 0, 1) := by decide +kernel
theorem dL_law_795 : decode cL_law 795 = .ok (.iload_n 3, 1) := by decide +kernel
theorem dL_law_796 : decode cL_law 796 = .ok (.iconst 3, 1) := by decide +kernel
theorem dL_law_797 : decode cL_law 797 = .ok (.iadd, 1) := by decide +kernel
theorem dL_law_798 : decode cL_law 798 = .ok (.iaload, 1) := by decide +kernel
theorem dL_law_799 : decode cL_law 799 = .ok (.aload_n 0, 1) := by decide +kernel
theorem dL_law_800 : decode cL_law 800 = .ok (.iload_n 3, 1) := by decide +kernel
theorem dL_law_801 : decode cL_law 801 = .ok (.iconst 4, 1) := by decide +kernel
theorem dL_law_802 : decode cL_law 802 = .ok (.iadd, 1) := by decide +kernel
theorem dL_law_803 : decode cL_law 803 = .ok (.iaload, 1) := by decide +kernel
theorem dL_law_804 : decode cL_law 804 = .ok (.aload_n 0, 1) := by decide +kernel
theorem dL_law_805 : decode cL_law 805 = .ok (.iload_n 3, 1) := by decide +kernel
theorem dL_law_806 : decode cL_law 806 = .ok (.iconst 5, 1) := by decide +kernel
theorem dL_law_807 : decode cL_law 807 = .ok (.iadd, 1) := by decide +kernel
theorem dL_law_808 : decode cL_law 808 = .ok (.iaload, 1) := by decide +kernel
theorem dL_law_809 : decode cL_law 809 = .ok (.invokevirtual 117, 3) := by decide +kernel
theorem dL_law_812 : decode cL_law 812 = .ok (.aload_n 2, 1) := by decide +kernel
theorem dL_law_813 : decode cL_law 813 = .ok (.aload_n 0, 1) := by decide +kernel
theorem dL_law_814 : decode cL_law 814 = .ok (.iload_n 3, 1) := by decide +kernel
theorem dL_law_815 : decode cL_law 815 = .ok (.iconst 1, 1) := by decide +kernel
theorem dL_law_816 : decode cL_law 816 = .ok (.iadd, 1) := by decide +kernel
theorem dL_law_817 : decode cL_law 817 = .ok (.iaload, 1) := by decide +kernel
theorem dL_law_818 : decode cL_law 818 = .ok (.aload_n 0, 1) := by decide +kernel
theorem dL_law_819 : decode cL_law 819 = .ok (.iload_n 3, 1) := by decide +kernel
theorem dL_law_820 : decode cL_law 820 = .ok (.iconst 2, 1) := by decide +kernel
theorem dL_law_821 : decode cL_law 821 = .ok (.iadd, 1) := by decide +kernel
theorem dL_law_822 : decode cL_law 822 = .ok (.iaload, 1) := by decide +kernel
theorem dL_law_823 : decode cL_law 823 = .ok (.aload_n 0, 1) := by decide +kernel
theorem dL_law_824 : decode cL_law 824 = .ok (.iload_n 3, 1) := by decide +kernel
theorem dL_law_825 : decode cL_law 825 = .ok (.iconst 3, 1) := by decide +kernel
theorem dL_law_826 : decode cL_law 826 = .ok (.iadd, 1) := by decide +kernel
theorem dL_law_827 : decode cL_law 827 = .ok (.iaload, 1) := by decide +kernel
theorem dL_law_828 : decode cL_law 828 = .ok (.aload_n 0, 1) := by decide +kernel
theorem dL_law_829 : decode cL_law 829 = .ok (.iload_n 3, 1) := by decide +kernel
theorem dL_law_830 : decode cL_law 830 = .ok (.iconst 4, 1) := by decide +kernel
theorem dL_law_831 : decode cL_law 831 = .ok (.iadd, 1) := by decide +kernel
theorem dL_law_832 : decode cL_law 832 = .ok (.iaload, 1) := by decide +kernel
theorem dL_law_833 : decode cL_law 833 = .ok (.aload_n 0, 1) := by decide +kernel
theorem dL_law_834 : decode cL_law 834 = .ok (.iload_n 3, 1) := by decide +kernel
theorem dL_law_835 : decode cL_law 835 = .ok (.iconst 5, 1) := by decide +kernel
theorem dL_law_836 : decode cL_law 836 = .ok (.iadd, 1) := by decide +kernel
theorem dL_law_837 : decode cL_law 837 = .ok (.iaload, 1) := by decide +kernel
theorem dL_law_838 : decode cL_law 838 = .ok (.invokevirtual 121, 3) := by decide +kernel
theorem dL_law_841 : decode cL_law 841 = .ok (.if_icmp .eq 97, 3) := by decide +kernel
theorem dL_law_844 : decode cL_law 844 = .ok (.iconst 0, 1) := by decide +kernel
theorem dL_law_845 : decode cL_law 845 = .ok (.ireturn, 1) := by decide +kernel
theorem dL_law_846 : decode cL_law 846 = .ok (.aload_n 1, 1) := by decide +kernel
theorem dL_law_847 : decode cL_law 847 = .ok (.aload_n 0, 1) := by decide +kernel
theorem dL_law_848 : decode cL_law 848 = .ok (.iload_n 3, 1) := by decide +kernel
theorem dL_law_849 : decode cL_law 849 = .ok (.iconst 1, 1) := by decide +kernel
theorem dL_law_850 : decode cL_law 850 = .ok (.iadd, 1) := by decide +kernel
theorem dL_law_851 : decode cL_law 851 = .ok (.iaload, 1) := by decide +kernel
theorem dL_law_852 : decode cL_law 852 = .ok (.aload_n 0, 1) := by decide +kernel
theorem dL_law_853 : decode cL_law 853 = .ok (.iload_n 3, 1) := by decide +kernel
theorem dL_law_854 : decode cL_law 854 = .ok (.iconst 2, 1) := by decide +kernel
theorem dL_law_855 : decode cL_law 855 = .ok (.iadd, 1) := by decide +kernel
theorem dL_law_856 : decode cL_law 856 = .ok (.iaload, 1) := by decide +kernel
theorem dL_law_857 : decode cL_law 857 = .ok (.aload_n 0, 1) := by decide +kernel
theorem dL_law_858 : decode cL_law 858 = .ok (.iload_n 3, 1) := by decide +kernel
theorem dL_law_859 : decode cL_law 859 = .ok (.iconst 3, 1) := by decide +kernel
theorem dL_law_860 : decode cL_law 860 = .ok (.iadd, 1) := by decide +kernel
theorem dL_law_861 : decode cL_law 861 = .ok (.iaload, 1) := by decide +kernel
theorem dL_law_862 : decode cL_law 862 = .ok (.invokevirtual 122, 3) := by decide +kernel
theorem dL_law_865 : decode cL_law 865 = .ok (.aload_n 2, 1) := by decide +kernel
theorem dL_law_866 : decode cL_law 866 = .ok (.aload_n 0, 1) := by decide +kernel
theorem dL_law_867 : decode cL_law 867 = .ok (.iload_n 3, 1) := by decide +kernel
theorem dL_law_868 : decode cL_law 868 = .ok (.iconst 1, 1) := by decide +kernel
theorem dL_law_869 : decode cL_law 869 = .ok (.iadd, 1) := by decide +kernel
theorem dL_law_870 : decode cL_law 870 = .ok (.iaload, 1) := by decide +kernel
theorem dL_law_871 : decode cL_law 871 = .ok (.aload_n 0, 1) := by decide +kernel
theorem dL_law_872 : decode cL_law 872 = .ok (.iload_n 3, 1) := by decide +kernel
theorem dL_law_873 : decode cL_law 873 = .ok (.iconst 2, 1) := by decide +kernel
theorem dL_law_874 : decode cL_law 874 = .ok (.iadd, 1) := by decide +kernel
theorem dL_law_875 : decode cL_law 875 = .ok (.iaload, 1) := by decide +kernel
theorem dL_law_876 : decode cL_law 876 = .ok (.aload_n 0, 1) := by decide +kernel
theorem dL_law_877 : decode cL_law 877 = .ok (.iload_n 3, 1) := by decide +kernel
theorem dL_law_878 : decode cL_law 878 = .ok (.iconst 3, 1) := by decide +kernel
theorem dL_law_879 : decode cL_law 879 = .ok (.iadd, 1) := by decide +kernel
theorem dL_law_880 : decode cL_law 880 = .ok (.iaload, 1) := by decide +kernel
theorem dL_law_881 : decode cL_law 881 = .ok (.invokevirtual 125, 3) := by decide +kernel
theorem dL_law_884 : decode cL_law 884 = .ok (.if_icmp .eq 54, 3) := by decide +kernel
theorem dL_law_887 : decode cL_law 887 = .ok (.iconst 0, 1) := by decide +kernel
theorem dL_law_888 : decode cL_law 888 = .ok (.ireturn, 1) := by decide +kernel
theorem dL_law_889 : decode cL_law 889 = .ok (.aload_n 1, 1) := by decide +kernel
theorem dL_law_890 : decode cL_law 890 = .ok (.invokevirtual 126, 3) := by decide +kernel
theorem dL_law_893 : decode cL_law 893 = .ok (.aload_n 2, 1) := by decide +kernel
theorem dL_law_894 : decode cL_law 894 = .ok (.invokevirtual 129, 3) := by decide +kernel
theorem dL_law_897 : decode cL_law 897 = .ok (.if_icmp .eq 41, 3) := by decide +kernel
theorem dL_law_900 : decode cL_law 900 = .ok (.iconst 0, 1) := by decide +kernel
theorem dL_law_901 : decode cL_law 901 = .ok (.ireturn, 1) := by decide +kernel
theorem dL_law_902 : decode cL_law 902 = .ok (.aload_n 1, 1) := by decide +kernel
theorem dL_law_903 : decode cL_law 903 = .ok (.invokevirtual 130, 3) := by decide +kernel
theorem dL_law_906 : decode cL_law 906 = .ok (.aload_n 2, 1) := by decide +kernel
theorem dL_law_907 : decode cL_law 907 = .ok (.invokevirtual 133, 3) := by decide +kernel
theorem dL_law_910 : decode cL_law 910 = .ok (.if_icmp .eq 28, 3) := by decide +kernel
theorem dL_law_913 : decode cL_law 913 = .ok (.iconst 0, 1) := by decide +kernel
theorem dL_law_914 : decode cL_law 914 = .ok (.ireturn, 1) := by decide +kernel
theorem dL_law_915 : decode cL_law 915 = .ok (.aload_n 1, 1) := by decide +kernel
theorem dL_law_916 : decode cL_law 916 = .ok (.aload_n 0, 1) := by decide +kernel
theorem dL_law_917 : decode cL_law 917 = .ok (.iload_n 3, 1) := by decide +kernel
theorem dL_law_918 : decode cL_law 918 = .ok (.iconst 1, 1) := by decide +kernel
theorem dL_law_919 : decode cL_law 919 = .ok (.iadd, 1) := by decide +kernel
theorem dL_law_920 : decode cL_law 920 = .ok (.iaload, 1) := by decide +kernel
theorem dL_law_921 : decode cL_law 921 = .ok (.invokevirtual 134, 3) := by decide +kernel
theorem dL_law_924 : decode cL_law 924 = .ok (.aload_n 2, 1) := by decide +kernel
theorem dL_law_925 : decode cL_law 925 = .ok (.aload_n 0, 1) := by decide +kernel
theorem dL_law_926 : decode cL_law 926 = .ok (.iload_n 3, 1) := by decide +kernel
theorem dL_law_927 : decode cL_law 927 = .ok (.iconst 1, 1) := by decide +kernel
theorem dL_law_928 : decode cL_law 928 = .ok (.iadd, 1) := by decide +kernel
theorem dL_law_929 : decode cL_law 929 = .ok (.iaload, 1) := by decide +kernel
theorem dL_law_930 : decode cL_law 930 = .ok (.invokevirtual 137, 3) := by decide +kernel
theorem dL_law_933 : decode cL_law 933 = .ok (.if_icmp .eq 5, 3) := by decide +kernel
theorem dL_law_936 : decode cL_law 936 = .ok (.iconst 0, 1) := by decide +kernel
theorem dL_law_937 : decode cL_law 937 = .ok (.ireturn, 1) := by decide +kernel
theorem dL_law_938 : decode cL_law 938 = .ok (.iinc 3 6, 3) := by decide +kernel
theorem dL_law_941 : decode cL_law 941 = .ok (.goto (-923), 3) := by decide +kernel
theorem dL_law_944 : decode cL_law 944 = .ok (.iconst 1, 1) := by decide +kernel
theorem dL_law_945 : decode cL_law 945 = .ok (.ireturn, 1) := by decide +kernel
end
section
/-! sx_G: the machine at pc with locals lv (none: unknown), operand stack st and cells ws, whatever heap holds them, comes to its end -/
abbrev sx_M : Type := Program × Launch × Env × Room × State × MethodId × Array Value × List Frame × Method × Code
abbrev sx_C : Type := sx_M × (Nat → Prop) × (State → Prop)
abbrev sx_D : Type := va_G × ClassId × ClassId
def sx_al : Nat → List (Option Value) → List (Nat × Value)
  | _, [] => []
  | k, none :: t => sx_al (k + 1) t
  | k, some v :: t => (k, v) :: sx_al (k + 1) t
theorem sx_al_mem : ∀ (lv : List (Option Value)) (k i : Nat) (v : Value), (i, v) ∈ sx_al k lv ↔ k ≤ i ∧ lv[i - k]? = some (some v)
  | [], k, i, v => by simp [sx_al]
  | none :: t, k, i, v => by
    rw [sx_al, sx_al_mem t (k + 1) i v]
    constructor
    · rintro ⟨h1, h2⟩
      refine ⟨by omega, ?_⟩
      rw [show i - k = (i - (k + 1)) + 1 by omega, List.getElem?_cons_succ]
      exact h2
    · rintro ⟨h1, h2⟩
      have h3 : i ≠ k := by
        rintro rfl
        rw [Nat.sub_self] at h2
        simp at h2
      refine ⟨by omega, ?_⟩
      rw [show i - k = (i - (k + 1)) + 1 by omega, List.getElem?_cons_succ] at h2
      exact h2
  | some w :: t, k, i, v => by
    rw [sx_al, List.mem_cons, sx_al_mem t (k + 1) i v]
    constructor
    · rintro (h | ⟨h1, h2⟩)
      · cases h
        refine ⟨Nat.le_refl _, ?_⟩
        rw [Nat.sub_self]; rfl
      · refine ⟨by omega, ?_⟩
        rw [show i - k = (i - (k + 1)) + 1 by omega, List.getElem?_cons_succ]
        exact h2
    · rintro ⟨h1, h2⟩
      by_cases h3 : i = k
      · subst h3
        rw [Nat.sub_self, List.getElem?_cons_zero] at h2
        cases h2
        exact Or.inl rfl
      · refine Or.inr ⟨by omega, ?_⟩
        rw [show i - k = (i - (k + 1)) + 1 by omega, List.getElem?_cons_succ] at h2
        exact h2
theorem sx_at {ls : Array Slot} {nL : Nat} {lv : List (Option Value)} (h : lv_has ls nL (sx_al 0 lv)) {i : Nat} {v : Value} (hk : lv[i]? = some (some v)) : ls[i]? = some (.val v) := h.2.2 (i, v) ((sx_al_mem lv 0 i v).mpr ⟨Nat.zero_le _, hk⟩)
/-- fewer locals -/
def sx_msk : List Bool → List (Option Value) → List (Option Value)
  | true :: m, v :: t => v :: sx_msk m t
  | false :: m, _ :: t => none :: sx_msk m t
  | _, _ => []
theorem sx_msk_at : ∀ (m : List Bool) (lv : List (Option Value)) (i : Nat) (v : Value), (sx_msk m lv)[i]? = some (some v) → lv[i]? = some (some v)
  | [], lv, i, v, h => by simp [sx_msk] at h
  | true :: m, [], i, v, h => by simp [sx_msk] at h
  | false :: m, [], i, v, h => by simp [sx_msk] at h
  | true :: m, w :: t, 0, v, h => by simpa [sx_msk] using h
  | false :: m, w :: t, 0, v, h => by simp [sx_msk] at h
  | true :: m, w :: t, i + 1, v, h => by
    rw [sx_msk, List.getElem?_cons_succ] at h
    rw [List.getElem?_cons_succ]
    exact sx_msk_at m t i v h
  | false :: m, w :: t, i + 1, v, h => by
    rw [sx_msk, List.getElem?_cons_succ] at h
    rw [List.getElem?_cons_succ]
    exact sx_msk_at m t i v h
theorem sx_has_of {ls : Array Slot} {nL : Nat} {l : List (Nat × Value)} {lv : List (Option Value)} (h : lv_has ls nL l) (hh : ∀ (i : Nat) (v : Value), lv[i]? = some (some v) → (i, v) ∈ l) : lv_has ls nL (sx_al 0 lv) := by
  refine ⟨h.1, h.2.1, fun q hq => ?_⟩
  obtain ⟨i, v⟩ := q
  have h1 := (sx_al_mem lv 0 i v).mp hq
  exact h.2.2 (i, v) (hh i v h1.2)
/-- no value of two words stands just ahead of i -/
def sx_ok (lv : List (Option Value)) (i : Nat) : Bool := match i with
  | 0 => true
  | j + 1 => match lv[j]? with
    | some (some v) => v.category == 1
    | _ => true
theorem sx_ok_spec {lv : List (Option Value)} {i j : Nat} {v : Value} (h : sx_ok lv i = true) (hj : lv[j]? = some (some v)) (e : j + 1 = i) : ¬ v.category = 2 := by
  subst e
  simp only [sx_ok, hj, beq_iff_eq] at h
  omega
theorem sx_st1 {ls : Array Slot} {nL : Nat} {lv lv' : List (Option Value)} {i : Nat} {x : Value} (hs : lv.set i (some x) = lv') (ho : sx_ok lv i = true) (h : lv_has ls nL ((i, x) :: (sx_al 0 lv).filter (fun q => !(q.1 == i) && !(q.1 + 1 == i && q.2.category == 2)))) : lv_has ls nL (sx_al 0 lv') := by
  refine sx_has_of h fun j v hj => ?_
  subst hs
  by_cases e : i = j
  · subst e
    have hl : i < lv.length := by
      have := (List.getElem?_eq_some_iff.mp hj).1
      simpa using this
    rw [List.getElem?_set_self hl] at hj
    cases hj
    exact List.mem_cons_self
  · rw [List.getElem?_set_ne e] at hj
    refine List.mem_cons_of_mem _ (List.mem_filter.mpr ⟨(sx_al_mem lv 0 j v).mpr ⟨Nat.zero_le _, hj⟩, ?_⟩)
    have h1 : ¬ j = i := fun z => e z.symm
    by_cases h2 : j + 1 = i
    · have := sx_ok_spec ho hj h2
      simp [h1, this]
    · simp [h1, h2]
theorem sx_st2 {ls : Array Slot} {nL : Nat} {lv lv' : List (Option Value)} {i : Nat} {x : Value} (hs : (lv.set (i + 1) none).set i (some x) = lv') (ho : sx_ok lv i = true) (h : lv_has ls nL ((i, x) :: (sx_al 0 lv).filter (fun q => !(q.1 == i) && (!(q.1 == i + 1) && !(q.1 + 1 == i && q.2.category == 2))))) : lv_has ls nL (sx_al 0 lv') := by
  refine sx_has_of h fun j v hj => ?_
  subst hs
  by_cases e : i = j
  · subst e
    have hl : i < (lv.set (i + 1) none).length := by
      have := (List.getElem?_eq_some_iff.mp hj).1
      simpa using this
    rw [List.getElem?_set_self hl] at hj
    cases hj
    exact List.mem_cons_self
  · rw [List.getElem?_set_ne e] at hj
    by_cases e2 : i + 1 = j
    · subst e2
      have hl : i + 1 < lv.length := by
        have := (List.getElem?_eq_some_iff.mp hj).1
        simpa using this
      rw [List.getElem?_set_self hl] at hj
      cases hj
    · rw [List.getElem?_set_ne e2] at hj
      refine List.mem_cons_of_mem _ (List.mem_filter.mpr ⟨(sx_al_mem lv 0 j v).mpr ⟨Nat.zero_le _, hj⟩, ?_⟩)
      have h1 : ¬ j = i := fun z => e z.symm
      have h3 : ¬ j = i + 1 := fun z => e2 z.symm
      by_cases h2 : j + 1 = i
      · have := sx_ok_spec ho hj h2
        simp [h1, h3, this]
      · simp [h1, h2, h3]
/-! the words, all of them -/
def sx_gw : List Cond := lw_tbl.filter goodWord
theorem sx_mem {w : Cond} (i : Nat) (h : lw_tbl[i]? = some w) (hg : goodWord w = true) : w ∈ sx_gw := List.mem_filter.mpr ⟨List.mem_of_getElem? h, hg⟩
def sx_nest (w : Cond) : Bool := match w with
  | .fieldLinkNest .. => true
  | .methodLinkNest .. => true
  | _ => false
def sx_ty (d : sx_D) : List (ClassId × FieldType) := [(d.2.1, .int), (d.2.2, .char)]
def sx_KK (d : sx_D) (U : State) : Prop := va_K d.1 vwCl (sx_ty d) U ∧ ∀ w ∈ lw_tbl, sx_nest w = true → va_Nw w U
theorem sx_nest_warm {w : Cond} {s U : State} (hn : sx_nest w = true) (hW : s.WarmedH U.vm) (h : va_Nw w s) : va_Nw w U := by
  cases w <;> first | (cases hn; done) | exact va_Nw.warmF hW h | exact va_Nw.warmM hW h
theorem sx_nest_same {w : Cond} {s U : State} (hn : sx_nest w = true) (hv : s.vm = U.vm) (h : va_Nw w s) : va_Nw w U := by
  cases w <;> first | (cases hn; done) | exact va_Nw.same rfl hv h
theorem sx_KK.warm {d : sx_D} {s U : State} (hW : s.WarmedH U.vm) (h : sx_KK d s) : sx_KK d U := ⟨va_K.moved hW.alike h.1, fun w hw hn => sx_nest_warm hn hW (h.2 w hw hn)⟩
theorem sx_KK.same {d : sx_D} {s U : State} (hv : s.vm = U.vm) (h : sx_KK d s) : sx_KK d U := ⟨va_K.moved (by rw [hv]; exact Vm.Alike.refl _) h.1, fun w hw hn => sx_nest_same hn hv (h.2 w hw hn)⟩
def sx_G (d : sx_D) (κ : sx_C) (nL k n pc : Nat) (lv : List (Option Value)) (st : List Value) (ws : va_W) : Prop :=
  match κ with
  | ((p, l, e, R, s, m, args, below, meth, c), A, Q) => ∀ (H : Heap) (locs : List Loc) (ls : Array Slot), va_P d.1 vwCl ws H → va_D A ws → va_S A s.heap H locs → lv_has ls nL (sx_al 0 lv) → W p l e R s m args below meth c H locs k n Q (F0 m pc ls st)
def sx_X (d : sx_D) (κ : sx_C) (cc : ByteArray) (nL : Nat) (own : String) (rm : Room) : Prop :=
  match κ with
  | ((p, _, _, R, s, m, args, _, _, c), A, _) => p.tables.exec = Jvm.exec ∧ c.code = cc ∧ c.maxLocals = nL ∧ s.vm.findClass own = some m.cls ∧ (∀ w ∈ sx_gw, w.before args s = true) ∧ sx_KK d s ∧ (∀ q, s.heap.size ≤ q → A q) ∧ R = rm
/-! what the pure functions are made of -/
def sx_rd {α : Type} {ρ : Type} (f : Nat → α) (n : Nat) (i : Int32) (K : α → Option ρ) : Option ρ := if i < 0 ∨ n ≤ i.toNatClampNeg then none else K (f i.toNatClampNeg)
def sx_wr {ρ : Type} (f : Nat → Int32) (n : Nat) (i x : Int32) (K : (Nat → Int32) → Option ρ) : Option ρ := if i < 0 ∨ n ≤ i.toNatClampNeg then none else K (upd f i.toNatClampNeg x)
def sx_nz {ρ : Type} (y : Int32) (K : Option ρ) : Option ρ := if y = 0 then none else K
def sx_nzl {ρ : Type} (y : Int64) (K : Option ρ) : Option ρ := if y = 0 then none else K
def sx_lt {α ρ : Type} (e : α) (K : α → Option ρ) : Option ρ := K e
def sx_ok8 {ρ : Type} (ty : FieldType) (v : Int32) (K : Option ρ) : Option ρ := if vp_nar ty v = v then K else none
def sx_cp {ρ : Type} (f g : Nat → Int32) (n0 n1 : Nat) (sp dp n : Int32) (K : (Nat → Int32) → Option ρ) : Option ρ := if sp < 0 ∨ dp < 0 ∨ n < 0 ∨ n0 < sp.toNatClampNeg + n.toNatClampNeg ∨ n1 < dp.toNatClampNeg + n.toNatClampNeg then none else K (va_cpy f g sp.toNatClampNeg dp.toNatClampNeg n.toNatClampNeg)
def sx_it {σ ρ : Type} : Nat → (σ → Option (σ ⊕ ρ)) → σ → Option ρ
  | 0, _, _ => none
  | n + 1, B, s => match B s with
    | none => none
    | some (.inl s') => sx_it n B s'
    | some (.inr r) => some r
theorem sx_it_run {σ ρ : Type} (B : σ → Option (σ ⊕ ρ)) (P : σ → Prop) (y : ρ) (step : ∀ s x, B s = some x → (∀ s', x = .inl s' → P s') → (∀ y', x = .inr y' → y' = y) → P s) : ∀ (n : Nat) (s : σ), sx_it n B s = some y → P s
  | 0, s, h => by cases h
  | n + 1, s, h => by
    unfold sx_it at h
    cases hB : B s with
    | none => rw [hB] at h; cases h
    | some x =>
      rw [hB] at h
      refine step s x hB ?_ ?_
      · rintro s' rfl
        exact sx_it_run B P y step n s' h
      · rintro y' rfl
        exact Option.some.inj h
theorem sx_bd {α ρ : Type} {x : Option α} {K : α → Option ρ} {r : ρ} (h : x.bind K = some r) : ∃ y, x = some y ∧ K y = some r := by
  cases x with
  | none => cases h
  | some y => exact ⟨y, rfl, h⟩
/-- the end of a turn of a loop: back to its head -/
theorem sx_bk {σ ρ : Type} {x : σ ⊕ ρ} {s' : σ} {P : σ → Prop} (h : some (Sum.inl s') = some x) (hb : ∀ s', x = .inl s' → P s') : P s' := hb s' (Option.some.inj h).symm
theorem sx_ex {σ ρ : Type} {x : σ ⊕ ρ} {y y' : ρ} (h : some (Sum.inr y') = some x) (he : ∀ y', x = .inr y' → y' = y) : y' = y := he y' (Option.some.inj h).symm
section SX
variable {d : sx_D} {κ : sx_C} {cc : ByteArray} {nL k n pc pc' : Nat} {own : String} {rm : Room} {lv : List (Option Value)} {st : List Value} {ws : va_W}
theorem sx_weak (m : List Bool) {lv' : List (Option Value)} (h : sx_msk m lv = lv') (K : sx_G d κ nL k n pc lv' st ws) : sx_G d κ nL k n pc lv st ws := by
  obtain ⟨⟨p, l, e, R, s, m', args, below, meth, c⟩, A, Q⟩ := κ
  exact fun H locs ls hP hD hS hl => K H locs ls hP hD hS (sx_has_of hl fun i v hv => (sx_al_mem lv 0 i v).mpr ⟨Nat.zero_le _, sx_msk_at m lv i v (by rw [h]; exact hv)⟩)
theorem g_iconst (X : sx_X d κ cc nL own rm) {z : Int} {v : Int32} (hd : decode cc pc = .ok (.iconst z, 1)) (hp : pc + 1 = pc') (hv : Int32.ofInt z = v) (K : sx_G d κ nL k n pc' lv (.int v :: st) ws) : sx_G d κ nL k n pc lv (st) ws := by
  obtain ⟨⟨p, l, e, R, s, m, args, below, meth, c⟩, A, Q⟩ := κ
  obtain ⟨hx, hb, hml, hown, hts, hKK, hA, hR⟩ := X
  subst hp
  exact fun H locs ls hP hD hS hl => lv_iconst hx hb hd hv (K H locs ls hP hD hS hl)
theorem g_bipush (X : sx_X d κ cc nL own rm) {z : Int} {v : Int32} (hd : decode cc pc = .ok (.bipush z, 2)) (hp : pc + 2 = pc') (hv : (Int8.ofInt z).toInt32 = v) (K : sx_G d κ nL k n pc' lv (.int v :: st) ws) : sx_G d κ nL k n pc lv (st) ws := by
  obtain ⟨⟨p, l, e, R, s, m, args, below, meth, c⟩, A, Q⟩ := κ
  obtain ⟨hx, hb, hml, hown, hts, hKK, hA, hR⟩ := X
  subst hp
  exact fun H locs ls hP hD hS hl => lv_bipush hx hb hd hv (K H locs ls hP hD hS hl)
theorem g_sipush (X : sx_X d κ cc nL own rm) {z : Int} {v : Int32} (hd : decode cc pc = .ok (.sipush z, 3)) (hp : pc + 3 = pc') (hv : (Int16.ofInt z).toInt32 = v) (K : sx_G d κ nL k n pc' lv (.int v :: st) ws) : sx_G d κ nL k n pc lv (st) ws := by
  obtain ⟨⟨p, l, e, R, s, m, args, below, meth, c⟩, A, Q⟩ := κ
  obtain ⟨hx, hb, hml, hown, hts, hKK, hA, hR⟩ := X
  subst hp
  exact fun H locs ls hP hD hS hl => lv_sipush hx hb hd hv (K H locs ls hP hD hS hl)
theorem g_lconst (X : sx_X d κ cc nL own rm) {z : Fin 2} {v : Int64} (hd : decode cc pc = .ok (.lconst z, 1)) (hp : pc + 1 = pc') (hv : Int64.ofNat (z : Nat) = v) (K : sx_G d κ nL k n pc' lv (.long v :: st) ws) : sx_G d κ nL k n pc lv (st) ws := by
  obtain ⟨⟨p, l, e, R, s, m, args, below, meth, c⟩, A, Q⟩ := κ
  obtain ⟨hx, hb, hml, hown, hts, hKK, hA, hR⟩ := X
  subst hp
  exact fun H locs ls hP hD hS hl => lv_lconst hx hb hd hv (K H locs ls hP hD hS hl)
theorem g_ldc (X : sx_X d κ cc nL own rm) {index : Nat} {v : Int32} (hd : decode cc pc = .ok (.ldc index, 2)) (hp : pc + 2 = pc') (hc : Jvm.Cond.constant own index v ∈ sx_gw) (K : sx_G d κ nL k n pc' lv (.int v :: st) ws) : sx_G d κ nL k n pc lv (st) ws := by
  obtain ⟨⟨p, l, e, R, s, m, args, below, meth, c⟩, A, Q⟩ := κ
  obtain ⟨hx, hb, hml, hown, hts, hKK, hA, hR⟩ := X
  subst hp
  exact fun H locs ls hP hD hS hl => lv_ldc hx hb hown (hts _ hc) hd (K H locs ls hP hD hS hl)
theorem g_ldcw (X : sx_X d κ cc nL own rm) {index : Nat} {v : Int32} (hd : decode cc pc = .ok (.ldc_w index, 3)) (hp : pc + 3 = pc') (hc : Jvm.Cond.constant own index v ∈ sx_gw) (K : sx_G d κ nL k n pc' lv (.int v :: st) ws) : sx_G d κ nL k n pc lv (st) ws := by
  obtain ⟨⟨p, l, e, R, s, m, args, below, meth, c⟩, A, Q⟩ := κ
  obtain ⟨hx, hb, hml, hown, hts, hKK, hA, hR⟩ := X
  subst hp
  exact fun H locs ls hP hD hS hl => lv_ldcw hx hb hown (hts _ hc) hd (K H locs ls hP hD hS hl)
theorem g_ldc2 (X : sx_X d κ cc nL own rm) {index : Nat} {v : Int64} (hd : decode cc pc = .ok (.ldc2_w index, 3)) (hp : pc + 3 = pc') (hc : Jvm.Cond.constantLong own index v ∈ sx_gw) (K : sx_G d κ nL k n pc' lv (.long v :: st) ws) : sx_G d κ nL k n pc lv (st) ws := by
  obtain ⟨⟨p, l, e, R, s, m, args, below, meth, c⟩, A, Q⟩ := κ
  obtain ⟨hx, hb, hml, hown, hts, hKK, hA, hR⟩ := X
  subst hp
  exact fun H locs ls hP hD hS hl => lv_ldc2 hx hb hown (hts _ hc) hd (K H locs ls hP hD hS hl)
theorem g_iload_n (X : sx_X d κ cc nL own rm) {z : Fin 4} {i : Nat} {x : Int32} (hd : decode cc pc = .ok (.iload_n z, 1)) (hp : pc + 1 = pc') (hi : (z : Nat) = i) (hv : lv[i]? = some (some (.int x))) (K : sx_G d κ nL k n pc' lv (.int x :: st) ws) : sx_G d κ nL k n pc lv (st) ws := by
  obtain ⟨⟨p, l, e, R, s, m, args, below, meth, c⟩, A, Q⟩ := κ
  obtain ⟨hx, hb, hml, hown, hts, hKK, hA, hR⟩ := X
  subst hp
  exact fun H locs ls hP hD hS hl => lv_iload_n hx hb hd hi (sx_at hl hv) (K H locs ls hP hD hS hl)
theorem g_iload (X : sx_X d κ cc nL own rm) {i : Nat} {x : Int32} (hd : decode cc pc = .ok (.iload i, 2)) (hp : pc + 2 = pc') (hv : lv[i]? = some (some (.int x))) (K : sx_G d κ nL k n pc' lv (.int x :: st) ws) : sx_G d κ nL k n pc lv (st) ws := by
  obtain ⟨⟨p, l, e, R, s, m, args, below, meth, c⟩, A, Q⟩ := κ
  obtain ⟨hx, hb, hml, hown, hts, hKK, hA, hR⟩ := X
  subst hp
  exact fun H locs ls hP hD hS hl => lv_iload hx hb hd (sx_at hl hv) (K H locs ls hP hD hS hl)
theorem g_lload_n (X : sx_X d κ cc nL own rm) {z : Fin 4} {i : Nat} {x : Int64} (hd : decode cc pc = .ok (.lload_n z, 1)) (hp : pc + 1 = pc') (hi : (z : Nat) = i) (hv : lv[i]? = some (some (.long x))) (K : sx_G d κ nL k n pc' lv (.long x :: st) ws) : sx_G d κ nL k n pc lv (st) ws := by
  obtain ⟨⟨p, l, e, R, s, m, args, below, meth, c⟩, A, Q⟩ := κ
  obtain ⟨hx, hb, hml, hown, hts, hKK, hA, hR⟩ := X
  subst hp
  exact fun H locs ls hP hD hS hl => lv_lload_n hx hb hd hi (sx_at hl hv) (K H locs ls hP hD hS hl)
theorem g_lload (X : sx_X d κ cc nL own rm) {i : Nat} {x : Int64} (hd : decode cc pc = .ok (.lload i, 2)) (hp : pc + 2 = pc') (hv : lv[i]? = some (some (.long x))) (K : sx_G d κ nL k n pc' lv (.long x :: st) ws) : sx_G d κ nL k n pc lv (st) ws := by
  obtain ⟨⟨p, l, e, R, s, m, args, below, meth, c⟩, A, Q⟩ := κ
  obtain ⟨hx, hb, hml, hown, hts, hKK, hA, hR⟩ := X
  subst hp
  exact fun H locs ls hP hD hS hl => lv_lload hx hb hd (sx_at hl hv) (K H locs ls hP hD hS hl)
theorem g_aload_n (X : sx_X d κ cc nL own rm) {z : Fin 4} {i : Nat} {x : Nat} (hd : decode cc pc = .ok (.aload_n z, 1)) (hp : pc + 1 = pc') (hi : (z : Nat) = i) (hv : lv[i]? = some (some (.ref x))) (K : sx_G d κ nL k n pc' lv (.ref x :: st) ws) : sx_G d κ nL k n pc lv (st) ws := by
  obtain ⟨⟨p, l, e, R, s, m, args, below, meth, c⟩, A, Q⟩ := κ
  obtain ⟨hx, hb, hml, hown, hts, hKK, hA, hR⟩ := X
  subst hp
  exact fun H locs ls hP hD hS hl => lv_aload_n hx hb hd hi (sx_at hl hv) (K H locs ls hP hD hS hl)
theorem g_aload (X : sx_X d κ cc nL own rm) {i : Nat} {x : Nat} (hd : decode cc pc = .ok (.aload i, 2)) (hp : pc + 2 = pc') (hv : lv[i]? = some (some (.ref x))) (K : sx_G d κ nL k n pc' lv (.ref x :: st) ws) : sx_G d κ nL k n pc lv (st) ws := by
  obtain ⟨⟨p, l, e, R, s, m, args, below, meth, c⟩, A, Q⟩ := κ
  obtain ⟨hx, hb, hml, hown, hts, hKK, hA, hR⟩ := X
  subst hp
  exact fun H locs ls hP hD hS hl => lv_aload hx hb hd (sx_at hl hv) (K H locs ls hP hD hS hl)
theorem g_istore_n (X : sx_X d κ cc nL own rm) {z : Fin 4} {i : Nat} {x : Int32} {lv' : List (Option Value)} (hd : decode cc pc = .ok (.istore_n z, 1)) (hp : pc + 1 = pc') (hi : (z : Nat) = i) (hn : i < nL) (ho : sx_ok lv i = true) (hs : lv.set i (some (.int x)) = lv') (K : sx_G d κ nL k n pc' lv' st ws) : sx_G d κ nL k n pc lv (.int x :: st) ws := by
  obtain ⟨⟨p, l, e, R, s, m, args, below, meth, c⟩, A, Q⟩ := κ
  obtain ⟨hx, hb, hml, hown, hts, hKK, hA, hR⟩ := X
  subst hp
  exact fun H locs ls hP hD hS hl => lv_istore_n hx hb hd hi hl hn rfl (fun ls hl => K H locs ls hP hD hS (sx_st1 hs ho hl))
theorem g_istore (X : sx_X d κ cc nL own rm) {i : Nat} {x : Int32} {lv' : List (Option Value)} (hd : decode cc pc = .ok (.istore i, 2)) (hp : pc + 2 = pc') (hn : i < nL) (ho : sx_ok lv i = true) (hs : lv.set i (some (.int x)) = lv') (K : sx_G d κ nL k n pc' lv' st ws) : sx_G d κ nL k n pc lv (.int x :: st) ws := by
  obtain ⟨⟨p, l, e, R, s, m, args, below, meth, c⟩, A, Q⟩ := κ
  obtain ⟨hx, hb, hml, hown, hts, hKK, hA, hR⟩ := X
  subst hp
  exact fun H locs ls hP hD hS hl => lv_istore hx hb hd hl hn rfl (fun ls hl => K H locs ls hP hD hS (sx_st1 hs ho hl))
theorem g_istore_nN (X : sx_X d κ cc nL own rm) {z : Fin 4} {i : Nat} {x : Int32} {lv' : Int32 → List (Option Value)} {ρ : Type} {F : Int32 → Option ρ} {r : ρ} (hd : decode cc pc = .ok (.istore_n z, 1)) (hp : pc + 1 = pc') (hi : (z : Nat) = i) (hn : i < nL) (ho : sx_ok lv i = true) (hs : ∀ v : Int32, lv.set i (some (.int v)) = lv' v) (hf : sx_lt x F = some r) (K : ∀ v : Int32, F v = some r → sx_G d κ nL k n pc' (lv' v) st ws) : sx_G d κ nL k n pc lv (.int x :: st) ws := g_istore_n X hd hp hi hn ho (hs x) (K x hf)
theorem g_istoreN (X : sx_X d κ cc nL own rm) {i : Nat} {x : Int32} {lv' : Int32 → List (Option Value)} {ρ : Type} {F : Int32 → Option ρ} {r : ρ} (hd : decode cc pc = .ok (.istore i, 2)) (hp : pc + 2 = pc') (hn : i < nL) (ho : sx_ok lv i = true) (hs : ∀ v : Int32, lv.set i (some (.int v)) = lv' v) (hf : sx_lt x F = some r) (K : ∀ v : Int32, F v = some r → sx_G d κ nL k n pc' (lv' v) st ws) : sx_G d κ nL k n pc lv (.int x :: st) ws := g_istore X hd hp hn ho (hs x) (K x hf)
theorem g_lstore_n (X : sx_X d κ cc nL own rm) {z : Fin 4} {i : Nat} {x : Int64} {lv' : List (Option Value)} (hd : decode cc pc = .ok (.lstore_n z, 1)) (hp : pc + 1 = pc') (hi : (z : Nat) = i) (hn : i + 1 < nL) (ho : sx_ok lv i = true) (hs : (lv.set (i + 1) none).set i (some (.long x)) = lv') (K : sx_G d κ nL k n pc' lv' st ws) : sx_G d κ nL k n pc lv (.long x :: st) ws := by
  obtain ⟨⟨p, l, e, R, s, m, args, below, meth, c⟩, A, Q⟩ := κ
  obtain ⟨hx, hb, hml, hown, hts, hKK, hA, hR⟩ := X
  subst hp
  exact fun H locs ls hP hD hS hl => lv_lstore_n hx hb hd hi hl hn rfl (fun ls hl => K H locs ls hP hD hS (sx_st2 hs ho hl))
theorem g_lstore (X : sx_X d κ cc nL own rm) {i : Nat} {x : Int64} {lv' : List (Option Value)} (hd : decode cc pc = .ok (.lstore i, 2)) (hp : pc + 2 = pc') (hn : i + 1 < nL) (ho : sx_ok lv i = true) (hs : (lv.set (i + 1) none).set i (some (.long x)) = lv') (K : sx_G d κ nL k n pc' lv' st ws) : sx_G d κ nL k n pc lv (.long x :: st) ws := by
  obtain ⟨⟨p, l, e, R, s, m, args, below, meth, c⟩, A, Q⟩ := κ
  obtain ⟨hx, hb, hml, hown, hts, hKK, hA, hR⟩ := X
  subst hp
  exact fun H locs ls hP hD hS hl => lv_lstore hx hb hd hl hn rfl (fun ls hl => K H locs ls hP hD hS (sx_st2 hs ho hl))
theorem g_lstore_nN (X : sx_X d κ cc nL own rm) {z : Fin 4} {i : Nat} {x : Int64} {lv' : Int64 → List (Option Value)} {ρ : Type} {F : Int64 → Option ρ} {r : ρ} (hd : decode cc pc = .ok (.lstore_n z, 1)) (hp : pc + 1 = pc') (hi : (z : Nat) = i) (hn : i + 1 < nL) (ho : sx_ok lv i = true) (hs : ∀ v : Int64, (lv.set (i + 1) none).set i (some (.long v)) = lv' v) (hf : sx_lt x F = some r) (K : ∀ v : Int64, F v = some r → sx_G d κ nL k n pc' (lv' v) st ws) : sx_G d κ nL k n pc lv (.long x :: st) ws := g_lstore_n X hd hp hi hn ho (hs x) (K x hf)
theorem g_lstoreN (X : sx_X d κ cc nL own rm) {i : Nat} {x : Int64} {lv' : Int64 → List (Option Value)} {ρ : Type} {F : Int64 → Option ρ} {r : ρ} (hd : decode cc pc = .ok (.lstore i, 2)) (hp : pc + 2 = pc') (hn : i + 1 < nL) (ho : sx_ok lv i = true) (hs : ∀ v : Int64, (lv.set (i + 1) none).set i (some (.long v)) = lv' v) (hf : sx_lt x F = some r) (K : ∀ v : Int64, F v = some r → sx_G d κ nL k n pc' (lv' v) st ws) : sx_G d κ nL k n pc lv (.long x :: st) ws := g_lstore X hd hp hn ho (hs x) (K x hf)
theorem g_astore_n (X : sx_X d κ cc nL own rm) {z : Fin 4} {i : Nat} {x : Nat} {lv' : List (Option Value)} (hd : decode cc pc = .ok (.astore_n z, 1)) (hp : pc + 1 = pc') (hi : (z : Nat) = i) (hn : i < nL) (ho : sx_ok lv i = true) (hs : lv.set i (some (.ref x)) = lv') (K : sx_G d κ nL k n pc' lv' st ws) : sx_G d κ nL k n pc lv (.ref x :: st) ws := by
  obtain ⟨⟨p, l, e, R, s, m, args, below, meth, c⟩, A, Q⟩ := κ
  obtain ⟨hx, hb, hml, hown, hts, hKK, hA, hR⟩ := X
  subst hp
  exact fun H locs ls hP hD hS hl => lv_astore_n hx hb hd hi hl hn rfl (fun ls hl => K H locs ls hP hD hS (sx_st1 hs ho hl))
theorem g_astore (X : sx_X d κ cc nL own rm) {i : Nat} {x : Nat} {lv' : List (Option Value)} (hd : decode cc pc = .ok (.astore i, 2)) (hp : pc + 2 = pc') (hn : i < nL) (ho : sx_ok lv i = true) (hs : lv.set i (some (.ref x)) = lv') (K : sx_G d κ nL k n pc' lv' st ws) : sx_G d κ nL k n pc lv (.ref x :: st) ws := by
  obtain ⟨⟨p, l, e, R, s, m, args, below, meth, c⟩, A, Q⟩ := κ
  obtain ⟨hx, hb, hml, hown, hts, hKK, hA, hR⟩ := X
  subst hp
  exact fun H locs ls hP hD hS hl => lv_astore hx hb hd hl hn rfl (fun ls hl => K H locs ls hP hD hS (sx_st1 hs ho hl))
theorem g_iinc (X : sx_X d κ cc nL own rm) {i : Nat} {z : Int} {x v : Int32} {lv' : List (Option Value)} (hd : decode cc pc = .ok (.iinc i z, 3)) (hp : pc + 3 = pc') (hv : lv[i]? = some (some (.int x))) (hz : Int32.ofInt z = v) (hn : i < nL) (ho : sx_ok lv i = true) (hs : lv.set i (some (.int (x + v))) = lv') (K : sx_G d κ nL k n pc' lv' st ws) : sx_G d κ nL k n pc lv st ws := by
  obtain ⟨⟨p, l, e, R, s, m, args, below, meth, c⟩, A, Q⟩ := κ
  obtain ⟨hx, hb, hml, hown, hts, hKK, hA, hR⟩ := X
  subst hp
  subst hz
  intro H locs ls hP hD hS hl
  obtain ⟨j, hj⟩ := List.getElem?_of_mem ((sx_al_mem lv 0 i (.int x)).mpr ⟨Nat.zero_le _, hv⟩)
  exact lv_iinc (k := j) hx hb hd hl hj rfl hn rfl (fun ls hl => K H locs ls hP hD hS (sx_st1 hs ho hl))
theorem g_iadd (X : sx_X d κ cc nL own rm) {x y : Int32} (hd : decode cc pc = .ok (.iadd, 1)) (hp : pc + 1 = pc') (K : sx_G d κ nL k n pc' lv (.int (x + y) :: st) ws) : sx_G d κ nL k n pc lv (.int y :: .int x :: st) ws := by
  obtain ⟨⟨p, l, e, R, s, m, args, below, meth, c⟩, A, Q⟩ := κ
  obtain ⟨hx, hb, hml, hown, hts, hKK, hA, hR⟩ := X
  subst hp
  exact fun H locs ls hP hD hS hl => lv_iadd hx hb hd (K H locs ls hP hD hS hl)
theorem g_isub (X : sx_X d κ cc nL own rm) {x y : Int32} (hd : decode cc pc = .ok (.isub, 1)) (hp : pc + 1 = pc') (K : sx_G d κ nL k n pc' lv (.int (x - y) :: st) ws) : sx_G d κ nL k n pc lv (.int y :: .int x :: st) ws := by
  obtain ⟨⟨p, l, e, R, s, m, args, below, meth, c⟩, A, Q⟩ := κ
  obtain ⟨hx, hb, hml, hown, hts, hKK, hA, hR⟩ := X
  subst hp
  exact fun H locs ls hP hD hS hl => lv_isub hx hb hd (K H locs ls hP hD hS hl)
theorem g_imul (X : sx_X d κ cc nL own rm) {x y : Int32} (hd : decode cc pc = .ok (.imul, 1)) (hp : pc + 1 = pc') (K : sx_G d κ nL k n pc' lv (.int (x * y) :: st) ws) : sx_G d κ nL k n pc lv (.int y :: .int x :: st) ws := by
  obtain ⟨⟨p, l, e, R, s, m, args, below, meth, c⟩, A, Q⟩ := κ
  obtain ⟨hx, hb, hml, hown, hts, hKK, hA, hR⟩ := X
  subst hp
  exact fun H locs ls hP hD hS hl => lv_imul hx hb hd (K H locs ls hP hD hS hl)
theorem g_iand (X : sx_X d κ cc nL own rm) {x y : Int32} (hd : decode cc pc = .ok (.iand, 1)) (hp : pc + 1 = pc') (K : sx_G d κ nL k n pc' lv (.int (x &&& y) :: st) ws) : sx_G d κ nL k n pc lv (.int y :: .int x :: st) ws := by
  obtain ⟨⟨p, l, e, R, s, m, args, below, meth, c⟩, A, Q⟩ := κ
  obtain ⟨hx, hb, hml, hown, hts, hKK, hA, hR⟩ := X
  subst hp
  exact fun H locs ls hP hD hS hl => lv_iand hx hb hd (K H locs ls hP hD hS hl)
theorem g_ior (X : sx_X d κ cc nL own rm) {x y : Int32} (hd : decode cc pc = .ok (.ior, 1)) (hp : pc + 1 = pc') (K : sx_G d κ nL k n pc' lv (.int (x ||| y) :: st) ws) : sx_G d κ nL k n pc lv (.int y :: .int x :: st) ws := by
  obtain ⟨⟨p, l, e, R, s, m, args, below, meth, c⟩, A, Q⟩ := κ
  obtain ⟨hx, hb, hml, hown, hts, hKK, hA, hR⟩ := X
  subst hp
  exact fun H locs ls hP hD hS hl => lv_ior hx hb hd (K H locs ls hP hD hS hl)
theorem g_ixor (X : sx_X d κ cc nL own rm) {x y : Int32} (hd : decode cc pc = .ok (.ixor, 1)) (hp : pc + 1 = pc') (K : sx_G d κ nL k n pc' lv (.int (x ^^^ y) :: st) ws) : sx_G d κ nL k n pc lv (.int y :: .int x :: st) ws := by
  obtain ⟨⟨p, l, e, R, s, m, args, below, meth, c⟩, A, Q⟩ := κ
  obtain ⟨hx, hb, hml, hown, hts, hKK, hA, hR⟩ := X
  subst hp
  exact fun H locs ls hP hD hS hl => lv_ixor hx hb hd (K H locs ls hP hD hS hl)
theorem g_ishl (X : sx_X d κ cc nL own rm) {x y : Int32} (hd : decode cc pc = .ok (.ishl, 1)) (hp : pc + 1 = pc') (K : sx_G d κ nL k n pc' lv (.int (x <<< (y &&& 31)) :: st) ws) : sx_G d κ nL k n pc lv (.int y :: .int x :: st) ws := by
  obtain ⟨⟨p, l, e, R, s, m, args, below, meth, c⟩, A, Q⟩ := κ
  obtain ⟨hx, hb, hml, hown, hts, hKK, hA, hR⟩ := X
  subst hp
  exact fun H locs ls hP hD hS hl => lv_ishl hx hb hd (K H locs ls hP hD hS hl)
theorem g_ishr (X : sx_X d κ cc nL own rm) {x y : Int32} (hd : decode cc pc = .ok (.ishr, 1)) (hp : pc + 1 = pc') (K : sx_G d κ nL k n pc' lv (.int (x >>> (y &&& 31)) :: st) ws) : sx_G d κ nL k n pc lv (.int y :: .int x :: st) ws := by
  obtain ⟨⟨p, l, e, R, s, m, args, below, meth, c⟩, A, Q⟩ := κ
  obtain ⟨hx, hb, hml, hown, hts, hKK, hA, hR⟩ := X
  subst hp
  exact fun H locs ls hP hD hS hl => lv_ishr hx hb hd (K H locs ls hP hD hS hl)
theorem g_iushr (X : sx_X d κ cc nL own rm) {x y : Int32} (hd : decode cc pc = .ok (.iushr, 1)) (hp : pc + 1 = pc') (K : sx_G d κ nL k n pc' lv (.int ((x.toUInt32 >>> (y.toUInt32 &&& Int32.toUInt32 31)).toInt32) :: st) ws) : sx_G d κ nL k n pc lv (.int y :: .int x :: st) ws := by
  obtain ⟨⟨p, l, e, R, s, m, args, below, meth, c⟩, A, Q⟩ := κ
  obtain ⟨hx, hb, hml, hown, hts, hKK, hA, hR⟩ := X
  subst hp
  exact fun H locs ls hP hD hS hl => lv_iushr hx hb hd rfl (K H locs ls hP hD hS hl)
theorem g_ladd (X : sx_X d κ cc nL own rm) {x y : Int64} (hd : decode cc pc = .ok (.ladd, 1)) (hp : pc + 1 = pc') (K : sx_G d κ nL k n pc' lv (.long (x + y) :: st) ws) : sx_G d κ nL k n pc lv (.long y :: .long x :: st) ws := by
  obtain ⟨⟨p, l, e, R, s, m, args, below, meth, c⟩, A, Q⟩ := κ
  obtain ⟨hx, hb, hml, hown, hts, hKK, hA, hR⟩ := X
  subst hp
  exact fun H locs ls hP hD hS hl => lv_ladd hx hb hd (K H locs ls hP hD hS hl)
theorem g_lsub (X : sx_X d κ cc nL own rm) {x y : Int64} (hd : decode cc pc = .ok (.lsub, 1)) (hp : pc + 1 = pc') (K : sx_G d κ nL k n pc' lv (.long (x - y) :: st) ws) : sx_G d κ nL k n pc lv (.long y :: .long x :: st) ws := by
  obtain ⟨⟨p, l, e, R, s, m, args, below, meth, c⟩, A, Q⟩ := κ
  obtain ⟨hx, hb, hml, hown, hts, hKK, hA, hR⟩ := X
  subst hp
  exact fun H locs ls hP hD hS hl => lv_lsub hx hb hd (K H locs ls hP hD hS hl)
theorem g_lmul (X : sx_X d κ cc nL own rm) {x y : Int64} (hd : decode cc pc = .ok (.lmul, 1)) (hp : pc + 1 = pc') (K : sx_G d κ nL k n pc' lv (.long (x * y) :: st) ws) : sx_G d κ nL k n pc lv (.long y :: .long x :: st) ws := by
  obtain ⟨⟨p, l, e, R, s, m, args, below, meth, c⟩, A, Q⟩ := κ
  obtain ⟨hx, hb, hml, hown, hts, hKK, hA, hR⟩ := X
  subst hp
  exact fun H locs ls hP hD hS hl => lv_lmul hx hb hd (K H locs ls hP hD hS hl)
theorem g_idiv (X : sx_X d κ cc nL own rm) {x y : Int32} (hd : decode cc pc = .ok (.idiv, 1)) (hp : pc + 1 = pc') (hne : ¬ y = 0) (K : sx_G d κ nL k n pc' lv (.int (x / y) :: st) ws) : sx_G d κ nL k n pc lv (.int y :: .int x :: st) ws := by
  obtain ⟨⟨p, l, e, R, s, m, args, below, meth, c⟩, A, Q⟩ := κ
  obtain ⟨hx, hb, hml, hown, hts, hKK, hA, hR⟩ := X
  subst hp
  exact fun H locs ls hP hD hS hl => lv_idiv hx hb hd hne (K H locs ls hP hD hS hl)
theorem g_idivZ (X : sx_X d κ cc nL own rm) {x y : Int32} {ρ : Type} {F : Option ρ} {r : ρ} (hd : decode cc pc = .ok (.idiv, 1)) (hp : pc + 1 = pc') (hf : sx_nz y F = some r) (K : F = some r → sx_G d κ nL k n pc' lv (.int (x / y) :: st) ws) : sx_G d κ nL k n pc lv (.int y :: .int x :: st) ws := by
  unfold sx_nz at hf
  by_cases h : y = 0
  · rw [if_pos h] at hf; cases hf
  · rw [if_neg h] at hf
    exact g_idiv X hd hp h (K hf)
theorem g_irem (X : sx_X d κ cc nL own rm) {x y : Int32} (hd : decode cc pc = .ok (.irem, 1)) (hp : pc + 1 = pc') (hne : ¬ y = 0) (K : sx_G d κ nL k n pc' lv (.int (x - x / y * y) :: st) ws) : sx_G d κ nL k n pc lv (.int y :: .int x :: st) ws := by
  obtain ⟨⟨p, l, e, R, s, m, args, below, meth, c⟩, A, Q⟩ := κ
  obtain ⟨hx, hb, hml, hown, hts, hKK, hA, hR⟩ := X
  subst hp
  exact fun H locs ls hP hD hS hl => lv_irem hx hb hd hne (K H locs ls hP hD hS hl)
theorem g_iremZ (X : sx_X d κ cc nL own rm) {x y : Int32} {ρ : Type} {F : Option ρ} {r : ρ} (hd : decode cc pc = .ok (.irem, 1)) (hp : pc + 1 = pc') (hf : sx_nz y F = some r) (K : F = some r → sx_G d κ nL k n pc' lv (.int (x - x / y * y) :: st) ws) : sx_G d κ nL k n pc lv (.int y :: .int x :: st) ws := by
  unfold sx_nz at hf
  by_cases h : y = 0
  · rw [if_pos h] at hf; cases hf
  · rw [if_neg h] at hf
    exact g_irem X hd hp h (K hf)
theorem g_ldiv (X : sx_X d κ cc nL own rm) {x y : Int64} (hd : decode cc pc = .ok (.ldiv, 1)) (hp : pc + 1 = pc') (hne : ¬ y = 0) (K : sx_G d κ nL k n pc' lv (.long (x / y) :: st) ws) : sx_G d κ nL k n pc lv (.long y :: .long x :: st) ws := by
  obtain ⟨⟨p, l, e, R, s, m, args, below, meth, c⟩, A, Q⟩ := κ
  obtain ⟨hx, hb, hml, hown, hts, hKK, hA, hR⟩ := X
  subst hp
  exact fun H locs ls hP hD hS hl => lv_ldiv hx hb hd hne (K H locs ls hP hD hS hl)
theorem g_ldivZ (X : sx_X d κ cc nL own rm) {x y : Int64} {ρ : Type} {F : Option ρ} {r : ρ} (hd : decode cc pc = .ok (.ldiv, 1)) (hp : pc + 1 = pc') (hf : sx_nzl y F = some r) (K : F = some r → sx_G d κ nL k n pc' lv (.long (x / y) :: st) ws) : sx_G d κ nL k n pc lv (.long y :: .long x :: st) ws := by
  unfold sx_nzl at hf
  by_cases h : y = 0
  · rw [if_pos h] at hf; cases hf
  · rw [if_neg h] at hf
    exact g_ldiv X hd hp h (K hf)
theorem g_lrem (X : sx_X d κ cc nL own rm) {x y : Int64} (hd : decode cc pc = .ok (.lrem, 1)) (hp : pc + 1 = pc') (hne : ¬ y = 0) (K : sx_G d κ nL k n pc' lv (.long (x - x / y * y) :: st) ws) : sx_G d κ nL k n pc lv (.long y :: .long x :: st) ws := by
  obtain ⟨⟨p, l, e, R, s, m, args, below, meth, c⟩, A, Q⟩ := κ
  obtain ⟨hx, hb, hml, hown, hts, hKK, hA, hR⟩ := X
  subst hp
  exact fun H locs ls hP hD hS hl => lv_lrem hx hb hd hne (K H locs ls hP hD hS hl)
theorem g_lremZ (X : sx_X d κ cc nL own rm) {x y : Int64} {ρ : Type} {F : Option ρ} {r : ρ} (hd : decode cc pc = .ok (.lrem, 1)) (hp : pc + 1 = pc') (hf : sx_nzl y F = some r) (K : F = some r → sx_G d κ nL k n pc' lv (.long (x - x / y * y) :: st) ws) : sx_G d κ nL k n pc lv (.long y :: .long x :: st) ws := by
  unfold sx_nzl at hf
  by_cases h : y = 0
  · rw [if_pos h] at hf; cases hf
  · rw [if_neg h] at hf
    exact g_lrem X hd hp h (K hf)
theorem g_i2l (X : sx_X d κ cc nL own rm) {x : Int32} (hd : decode cc pc = .ok (.i2l, 1)) (hp : pc + 1 = pc') (K : sx_G d κ nL k n pc' lv (.long x.toInt64 :: st) ws) : sx_G d κ nL k n pc lv (.int x :: st) ws := by
  obtain ⟨⟨p, l, e, R, s, m, args, below, meth, c⟩, A, Q⟩ := κ
  obtain ⟨hx, hb, hml, hown, hts, hKK, hA, hR⟩ := X
  subst hp
  exact fun H locs ls hP hD hS hl => lv_i2l hx hb hd rfl (K H locs ls hP hD hS hl)
theorem g_l2i (X : sx_X d κ cc nL own rm) {x : Int64} (hd : decode cc pc = .ok (.l2i, 1)) (hp : pc + 1 = pc') (K : sx_G d κ nL k n pc' lv (.int x.toInt32 :: st) ws) : sx_G d κ nL k n pc lv (.long x :: st) ws := by
  obtain ⟨⟨p, l, e, R, s, m, args, below, meth, c⟩, A, Q⟩ := κ
  obtain ⟨hx, hb, hml, hown, hts, hKK, hA, hR⟩ := X
  subst hp
  exact fun H locs ls hP hD hS hl => lv_l2i hx hb hd rfl (K H locs ls hP hD hS hl)
theorem g_i2c (X : sx_X d κ cc nL own rm) {x : Int32} (hd : decode cc pc = .ok (.i2c, 1)) (hp : pc + 1 = pc') (K : sx_G d κ nL k n pc' lv (.int (x.toUInt32 % 65536).toInt32 :: st) ws) : sx_G d κ nL k n pc lv (.int x :: st) ws := by
  obtain ⟨⟨p, l, e, R, s, m, args, below, meth, c⟩, A, Q⟩ := κ
  obtain ⟨hx, hb, hml, hown, hts, hKK, hA, hR⟩ := X
  subst hp
  exact fun H locs ls hP hD hS hl => lv_i2c hx hb hd rfl (K H locs ls hP hD hS hl)
theorem g_lcmp (X : sx_X d κ cc nL own rm) {x y : Int64} (hd : decode cc pc = .ok (.lcmp, 1)) (hp : pc + 1 = pc') (K : sx_G d κ nL k n pc' lv (.int (lg_cmp x y) :: st) ws) : sx_G d κ nL k n pc lv (.long y :: .long x :: st) ws := by
  obtain ⟨⟨p, l, e, R, s, m, args, below, meth, c⟩, A, Q⟩ := κ
  obtain ⟨hx, hb, hml, hown, hts, hKK, hA, hR⟩ := X
  subst hp
  exact fun H locs ls hP hD hS hl => W.lcmp hx hb hd (K H locs ls hP hD hS hl)
theorem g_dup (X : sx_X d κ cc nL own rm) {v : Value} (hd : decode cc pc = .ok (.dup, 1)) (hp : pc + 1 = pc') (hc : v.category = 1) (K : sx_G d κ nL k n pc' lv (v :: v :: st) ws) : sx_G d κ nL k n pc lv (v :: st) ws := by
  obtain ⟨⟨p, l, e, R, s, m, args, below, meth, c⟩, A, Q⟩ := κ
  obtain ⟨hx, hb, hml, hown, hts, hKK, hA, hR⟩ := X
  subst hp
  exact fun H locs ls hP hD hS hl => lv_dup hx hb hd hc (K H locs ls hP hD hS hl)
theorem g_dup2 (X : sx_X d κ cc nL own rm) {v w : Value} (hd : decode cc pc = .ok (.dup2, 1)) (hp : pc + 1 = pc') (hc : v.category = 1) (hc2 : w.category = 1) (K : sx_G d κ nL k n pc' lv (v :: w :: v :: w :: st) ws) : sx_G d κ nL k n pc lv (v :: w :: st) ws := by
  obtain ⟨⟨p, l, e, R, s, m, args, below, meth, c⟩, A, Q⟩ := κ
  obtain ⟨hx, hb, hml, hown, hts, hKK, hA, hR⟩ := X
  subst hp
  exact fun H locs ls hP hD hS hl => lv_dup2_11 hx hb hd hc hc2 (K H locs ls hP hD hS hl)
theorem g_pop (X : sx_X d κ cc nL own rm) {v : Value} (hd : decode cc pc = .ok (.pop, 1)) (hp : pc + 1 = pc') (hc : v.category = 1) (K : sx_G d κ nL k n pc' lv (st) ws) : sx_G d κ nL k n pc lv (v :: st) ws := by
  obtain ⟨⟨p, l, e, R, s, m, args, below, meth, c⟩, A, Q⟩ := κ
  obtain ⟨hx, hb, hml, hown, hts, hKK, hA, hR⟩ := X
  subst hp
  exact fun H locs ls hP hD hS hl => lv_pop hx hb hd hc (K H locs ls hP hD hS hl)
theorem g_if_eq (X : sx_X d κ cc nL own rm) {x : Int32} {off : Int} {tgt : Nat} {ρ : Type} {F1 F2 : Option ρ} {r : ρ} (hd : decode cc pc = .ok (.ifCond .eq off, 3)) (ht : (pc : Int) + off = (tgt : Int)) (hp : pc + 3 = pc') (hf : (if x = 0 then F1 else F2) = some r) (K1 : F1 = some r → sx_G d κ nL k n tgt lv st ws) (K2 : F2 = some r → sx_G d κ nL k n pc' lv st ws) : sx_G d κ nL k n pc lv (.int x :: st) ws := by
  obtain ⟨⟨p, l, e, R, s, m, args, below, meth, c⟩, A, Q⟩ := κ
  obtain ⟨hx, hb, hml, hown, hts, hKK, hA, hR⟩ := X
  subst hp
  exact fun H locs ls hP hD hS hl => lv_if_eq hx hb hd ht (fun q => K1 (by rw [if_pos q] at hf; exact hf) H locs ls hP hD hS hl) (fun q => K2 (by rw [if_neg q] at hf; exact hf) H locs ls hP hD hS hl)
theorem g_if_eq_t (X : sx_X d κ cc nL own rm) {x : Int32} {off : Int} {tgt : Nat} (hd : decode cc pc = .ok (.ifCond .eq off, 3)) (ht : (pc : Int) + off = (tgt : Int)) (q : x = 0) (K1 : sx_G d κ nL k n tgt lv st ws) : sx_G d κ nL k n pc lv (.int x :: st) ws := by
  obtain ⟨⟨p, l, e, R, s, m, args, below, meth, c⟩, A, Q⟩ := κ
  obtain ⟨hx, hb, hml, hown, hts, hKK, hA, hR⟩ := X
  exact fun H locs ls hP hD hS hl => lv_if_eq hx hb hd ht (fun _ => K1 H locs ls hP hD hS hl) (fun z => absurd q z)
theorem g_if_eq_f (X : sx_X d κ cc nL own rm) {x : Int32} {off : Int} {tgt : Nat} (hd : decode cc pc = .ok (.ifCond .eq off, 3)) (ht : (pc : Int) + off = (tgt : Int)) (hp : pc + 3 = pc') (q : ¬ (x = 0)) (K2 : sx_G d κ nL k n pc' lv st ws) : sx_G d κ nL k n pc lv (.int x :: st) ws := by
  obtain ⟨⟨p, l, e, R, s, m, args, below, meth, c⟩, A, Q⟩ := κ
  obtain ⟨hx, hb, hml, hown, hts, hKK, hA, hR⟩ := X
  subst hp
  exact fun H locs ls hP hD hS hl => lv_if_eq hx hb hd ht (fun z => absurd z q) (fun _ => K2 H locs ls hP hD hS hl)
theorem g_icmp_eq (X : sx_X d κ cc nL own rm) {x y : Int32} {off : Int} {tgt : Nat} {ρ : Type} {F1 F2 : Option ρ} {r : ρ} (hd : decode cc pc = .ok (.if_icmp .eq off, 3)) (ht : (pc : Int) + off = (tgt : Int)) (hp : pc + 3 = pc') (hf : (if x = y then F1 else F2) = some r) (K1 : F1 = some r → sx_G d κ nL k n tgt lv st ws) (K2 : F2 = some r → sx_G d κ nL k n pc' lv st ws) : sx_G d κ nL k n pc lv (.int y :: .int x :: st) ws := by
  obtain ⟨⟨p, l, e, R, s, m, args, below, meth, c⟩, A, Q⟩ := κ
  obtain ⟨hx, hb, hml, hown, hts, hKK, hA, hR⟩ := X
  subst hp
  exact fun H locs ls hP hD hS hl => lv_icmp_eq hx hb hd ht (fun q => K1 (by rw [if_pos q] at hf; exact hf) H locs ls hP hD hS hl) (fun q => K2 (by rw [if_neg q] at hf; exact hf) H locs ls hP hD hS hl)
theorem g_icmp_eq_t (X : sx_X d κ cc nL own rm) {x y : Int32} {off : Int} {tgt : Nat} (hd : decode cc pc = .ok (.if_icmp .eq off, 3)) (ht : (pc : Int) + off = (tgt : Int)) (q : x = y) (K1 : sx_G d κ nL k n tgt lv st ws) : sx_G d κ nL k n pc lv (.int y :: .int x :: st) ws := by
  obtain ⟨⟨p, l, e, R, s, m, args, below, meth, c⟩, A, Q⟩ := κ
  obtain ⟨hx, hb, hml, hown, hts, hKK, hA, hR⟩ := X
  exact fun H locs ls hP hD hS hl => lv_icmp_eq hx hb hd ht (fun _ => K1 H locs ls hP hD hS hl) (fun z => absurd q z)
theorem g_icmp_eq_f (X : sx_X d κ cc nL own rm) {x y : Int32} {off : Int} {tgt : Nat} (hd : decode cc pc = .ok (.if_icmp .eq off, 3)) (ht : (pc : Int) + off = (tgt : Int)) (hp : pc + 3 = pc') (q : ¬ (x = y)) (K2 : sx_G d κ nL k n pc' lv st ws) : sx_G d κ nL k n pc lv (.int y :: .int x :: st) ws := by
  obtain ⟨⟨p, l, e, R, s, m, args, below, meth, c⟩, A, Q⟩ := κ
  obtain ⟨hx, hb, hml, hown, hts, hKK, hA, hR⟩ := X
  subst hp
  exact fun H locs ls hP hD hS hl => lv_icmp_eq hx hb hd ht (fun z => absurd z q) (fun _ => K2 H locs ls hP hD hS hl)
theorem g_if_ne (X : sx_X d κ cc nL own rm) {x : Int32} {off : Int} {tgt : Nat} {ρ : Type} {F1 F2 : Option ρ} {r : ρ} (hd : decode cc pc = .ok (.ifCond .ne off, 3)) (ht : (pc : Int) + off = (tgt : Int)) (hp : pc + 3 = pc') (hf : (if x = 0 then F2 else F1) = some r) (K1 : F1 = some r → sx_G d κ nL k n tgt lv st ws) (K2 : F2 = some r → sx_G d κ nL k n pc' lv st ws) : sx_G d κ nL k n pc lv (.int x :: st) ws := by
  obtain ⟨⟨p, l, e, R, s, m, args, below, meth, c⟩, A, Q⟩ := κ
  obtain ⟨hx, hb, hml, hown, hts, hKK, hA, hR⟩ := X
  subst hp
  exact fun H locs ls hP hD hS hl => lv_if_ne hx hb hd ht (fun q => K1 (by rw [if_neg q] at hf; exact hf) H locs ls hP hD hS hl) (fun q => K2 (by rw [if_pos q] at hf; exact hf) H locs ls hP hD hS hl)
theorem g_if_ne_t (X : sx_X d κ cc nL own rm) {x : Int32} {off : Int} {tgt : Nat} (hd : decode cc pc = .ok (.ifCond .ne off, 3)) (ht : (pc : Int) + off = (tgt : Int)) (q : ¬ (x = 0)) (K1 : sx_G d κ nL k n tgt lv st ws) : sx_G d κ nL k n pc lv (.int x :: st) ws := by
  obtain ⟨⟨p, l, e, R, s, m, args, below, meth, c⟩, A, Q⟩ := κ
  obtain ⟨hx, hb, hml, hown, hts, hKK, hA, hR⟩ := X
  exact fun H locs ls hP hD hS hl => lv_if_ne hx hb hd ht (fun _ => K1 H locs ls hP hD hS hl) (fun z => absurd z q)
theorem g_if_ne_f (X : sx_X d κ cc nL own rm) {x : Int32} {off : Int} {tgt : Nat} (hd : decode cc pc = .ok (.ifCond .ne off, 3)) (ht : (pc : Int) + off = (tgt : Int)) (hp : pc + 3 = pc') (q : x = 0) (K2 : sx_G d κ nL k n pc' lv st ws) : sx_G d κ nL k n pc lv (.int x :: st) ws := by
  obtain ⟨⟨p, l, e, R, s, m, args, below, meth, c⟩, A, Q⟩ := κ
  obtain ⟨hx, hb, hml, hown, hts, hKK, hA, hR⟩ := X
  subst hp
  exact fun H locs ls hP hD hS hl => lv_if_ne hx hb hd ht (fun z => absurd q z) (fun _ => K2 H locs ls hP hD hS hl)
theorem g_icmp_ne (X : sx_X d κ cc nL own rm) {x y : Int32} {off : Int} {tgt : Nat} {ρ : Type} {F1 F2 : Option ρ} {r : ρ} (hd : decode cc pc = .ok (.if_icmp .ne off, 3)) (ht : (pc : Int) + off = (tgt : Int)) (hp : pc + 3 = pc') (hf : (if x = y then F2 else F1) = some r) (K1 : F1 = some r → sx_G d κ nL k n tgt lv st ws) (K2 : F2 = some r → sx_G d κ nL k n pc' lv st ws) : sx_G d κ nL k n pc lv (.int y :: .int x :: st) ws := by
  obtain ⟨⟨p, l, e, R, s, m, args, below, meth, c⟩, A, Q⟩ := κ
  obtain ⟨hx, hb, hml, hown, hts, hKK, hA, hR⟩ := X
  subst hp
  exact fun H locs ls hP hD hS hl => lv_icmp_ne hx hb hd ht (fun q => K1 (by rw [if_neg q] at hf; exact hf) H locs ls hP hD hS hl) (fun q => K2 (by rw [if_pos q] at hf; exact hf) H locs ls hP hD hS hl)
theorem g_icmp_ne_t (X : sx_X d κ cc nL own rm) {x y : Int32} {off : Int} {tgt : Nat} (hd : decode cc pc = .ok (.if_icmp .ne off, 3)) (ht : (pc : Int) + off = (tgt : Int)) (q : ¬ (x = y)) (K1 : sx_G d κ nL k n tgt lv st ws) : sx_G d κ nL k n pc lv (.int y :: .int x :: st) ws := by
  obtain ⟨⟨p, l, e, R, s, m, args, below, meth, c⟩, A, Q⟩ := κ
  obtain ⟨hx, hb, hml, hown, hts, hKK, hA, hR⟩ := X
  exact fun H locs ls hP hD hS hl => lv_icmp_ne hx hb hd ht (fun _ => K1 H locs ls hP hD hS hl) (fun z => absurd z q)
theorem g_icmp_ne_f (X : sx_X d κ cc nL own rm) {x y : Int32} {off : Int} {tgt : Nat} (hd : decode cc pc = .ok (.if_icmp .ne off, 3)) (ht : (pc : Int) + off = (tgt : Int)) (hp : pc + 3 = pc') (q : x = y) (K2 : sx_G d κ nL k n pc' lv st ws) : sx_G d κ nL k n pc lv (.int y :: .int x :: st) ws := by
  obtain ⟨⟨p, l, e, R, s, m, args, below, meth, c⟩, A, Q⟩ := κ
  obtain ⟨hx, hb, hml, hown, hts, hKK, hA, hR⟩ := X
  subst hp
  exact fun H locs ls hP hD hS hl => lv_icmp_ne hx hb hd ht (fun z => absurd q z) (fun _ => K2 H locs ls hP hD hS hl)
theorem g_if_lt (X : sx_X d κ cc nL own rm) {x : Int32} {off : Int} {tgt : Nat} {ρ : Type} {F1 F2 : Option ρ} {r : ρ} (hd : decode cc pc = .ok (.ifCond .lt off, 3)) (ht : (pc : Int) + off = (tgt : Int)) (hp : pc + 3 = pc') (hf : (if x < 0 then F1 else F2) = some r) (K1 : F1 = some r → sx_G d κ nL k n tgt lv st ws) (K2 : F2 = some r → sx_G d κ nL k n pc' lv st ws) : sx_G d κ nL k n pc lv (.int x :: st) ws := by
  obtain ⟨⟨p, l, e, R, s, m, args, below, meth, c⟩, A, Q⟩ := κ
  obtain ⟨hx, hb, hml, hown, hts, hKK, hA, hR⟩ := X
  subst hp
  exact fun H locs ls hP hD hS hl => lv_if_lt hx hb hd ht (fun q => K1 (by rw [if_pos q] at hf; exact hf) H locs ls hP hD hS hl) (fun q => K2 (by rw [if_neg q] at hf; exact hf) H locs ls hP hD hS hl)
theorem g_if_lt_t (X : sx_X d κ cc nL own rm) {x : Int32} {off : Int} {tgt : Nat} (hd : decode cc pc = .ok (.ifCond .lt off, 3)) (ht : (pc : Int) + off = (tgt : Int)) (q : x < 0) (K1 : sx_G d κ nL k n tgt lv st ws) : sx_G d κ nL k n pc lv (.int x :: st) ws := by
  obtain ⟨⟨p, l, e, R, s, m, args, below, meth, c⟩, A, Q⟩ := κ
  obtain ⟨hx, hb, hml, hown, hts, hKK, hA, hR⟩ := X
  exact fun H locs ls hP hD hS hl => lv_if_lt hx hb hd ht (fun _ => K1 H locs ls hP hD hS hl) (fun z => absurd q z)
theorem g_if_lt_f (X : sx_X d κ cc nL own rm) {x : Int32} {off : Int} {tgt : Nat} (hd : decode cc pc = .ok (.ifCond .lt off, 3)) (ht : (pc : Int) + off = (tgt : Int)) (hp : pc + 3 = pc') (q : ¬ (x < 0)) (K2 : sx_G d κ nL k n pc' lv st ws) : sx_G d κ nL k n pc lv (.int x :: st) ws := by
  obtain ⟨⟨p, l, e, R, s, m, args, below, meth, c⟩, A, Q⟩ := κ
  obtain ⟨hx, hb, hml, hown, hts, hKK, hA, hR⟩ := X
  subst hp
  exact fun H locs ls hP hD hS hl => lv_if_lt hx hb hd ht (fun z => absurd z q) (fun _ => K2 H locs ls hP hD hS hl)
theorem g_icmp_lt (X : sx_X d κ cc nL own rm) {x y : Int32} {off : Int} {tgt : Nat} {ρ : Type} {F1 F2 : Option ρ} {r : ρ} (hd : decode cc pc = .ok (.if_icmp .lt off, 3)) (ht : (pc : Int) + off = (tgt : Int)) (hp : pc + 3 = pc') (hf : (if x < y then F1 else F2) = some r) (K1 : F1 = some r → sx_G d κ nL k n tgt lv st ws) (K2 : F2 = some r → sx_G d κ nL k n pc' lv st ws) : sx_G d κ nL k n pc lv (.int y :: .int x :: st) ws := by
  obtain ⟨⟨p, l, e, R, s, m, args, below, meth, c⟩, A, Q⟩ := κ
  obtain ⟨hx, hb, hml, hown, hts, hKK, hA, hR⟩ := X
  subst hp
  exact fun H locs ls hP hD hS hl => lv_icmp_lt hx hb hd ht (fun q => K1 (by rw [if_pos q] at hf; exact hf) H locs ls hP hD hS hl) (fun q => K2 (by rw [if_neg q] at hf; exact hf) H locs ls hP hD hS hl)
theorem g_icmp_lt_t (X : sx_X d κ cc nL own rm) {x y : Int32} {off : Int} {tgt : Nat} (hd : decode cc pc = .ok (.if_icmp .lt off, 3)) (ht : (pc : Int) + off = (tgt : Int)) (q : x < y) (K1 : sx_G d κ nL k n tgt lv st ws) : sx_G d κ nL k n pc lv (.int y :: .int x :: st) ws := by
  obtain ⟨⟨p, l, e, R, s, m, args, below, meth, c⟩, A, Q⟩ := κ
  obtain ⟨hx, hb, hml, hown, hts, hKK, hA, hR⟩ := X
  exact fun H locs ls hP hD hS hl => lv_icmp_lt hx hb hd ht (fun _ => K1 H locs ls hP hD hS hl) (fun z => absurd q z)
theorem g_icmp_lt_f (X : sx_X d κ cc nL own rm) {x y : Int32} {off : Int} {tgt : Nat} (hd : decode cc pc = .ok (.if_icmp .lt off, 3)) (ht : (pc : Int) + off = (tgt : Int)) (hp : pc + 3 = pc') (q : ¬ (x < y)) (K2 : sx_G d κ nL k n pc' lv st ws) : sx_G d κ nL k n pc lv (.int y :: .int x :: st) ws := by
  obtain ⟨⟨p, l, e, R, s, m, args, below, meth, c⟩, A, Q⟩ := κ
  obtain ⟨hx, hb, hml, hown, hts, hKK, hA, hR⟩ := X
  subst hp
  exact fun H locs ls hP hD hS hl => lv_icmp_lt hx hb hd ht (fun z => absurd z q) (fun _ => K2 H locs ls hP hD hS hl)
theorem g_if_ge (X : sx_X d κ cc nL own rm) {x : Int32} {off : Int} {tgt : Nat} {ρ : Type} {F1 F2 : Option ρ} {r : ρ} (hd : decode cc pc = .ok (.ifCond .ge off, 3)) (ht : (pc : Int) + off = (tgt : Int)) (hp : pc + 3 = pc') (hf : (if 0 ≤ x then F1 else F2) = some r) (K1 : F1 = some r → sx_G d κ nL k n tgt lv st ws) (K2 : F2 = some r → sx_G d κ nL k n pc' lv st ws) : sx_G d κ nL k n pc lv (.int x :: st) ws := by
  obtain ⟨⟨p, l, e, R, s, m, args, below, meth, c⟩, A, Q⟩ := κ
  obtain ⟨hx, hb, hml, hown, hts, hKK, hA, hR⟩ := X
  subst hp
  exact fun H locs ls hP hD hS hl => lv_if_ge hx hb hd ht (fun q => K1 (by rw [if_pos q] at hf; exact hf) H locs ls hP hD hS hl) (fun q => K2 (by rw [if_neg q] at hf; exact hf) H locs ls hP hD hS hl)
theorem g_if_ge_t (X : sx_X d κ cc nL own rm) {x : Int32} {off : Int} {tgt : Nat} (hd : decode cc pc = .ok (.ifCond .ge off, 3)) (ht : (pc : Int) + off = (tgt : Int)) (q : 0 ≤ x) (K1 : sx_G d κ nL k n tgt lv st ws) : sx_G d κ nL k n pc lv (.int x :: st) ws := by
  obtain ⟨⟨p, l, e, R, s, m, args, below, meth, c⟩, A, Q⟩ := κ
  obtain ⟨hx, hb, hml, hown, hts, hKK, hA, hR⟩ := X
  exact fun H locs ls hP hD hS hl => lv_if_ge hx hb hd ht (fun _ => K1 H locs ls hP hD hS hl) (fun z => absurd q z)
theorem g_if_ge_f (X : sx_X d κ cc nL own rm) {x : Int32} {off : Int} {tgt : Nat} (hd : decode cc pc = .ok (.ifCond .ge off, 3)) (ht : (pc : Int) + off = (tgt : Int)) (hp : pc + 3 = pc') (q : ¬ (0 ≤ x)) (K2 : sx_G d κ nL k n pc' lv st ws) : sx_G d κ nL k n pc lv (.int x :: st) ws := by
  obtain ⟨⟨p, l, e, R, s, m, args, below, meth, c⟩, A, Q⟩ := κ
  obtain ⟨hx, hb, hml, hown, hts, hKK, hA, hR⟩ := X
  subst hp
  exact fun H locs ls hP hD hS hl => lv_if_ge hx hb hd ht (fun z => absurd z q) (fun _ => K2 H locs ls hP hD hS hl)
theorem g_icmp_ge (X : sx_X d κ cc nL own rm) {x y : Int32} {off : Int} {tgt : Nat} {ρ : Type} {F1 F2 : Option ρ} {r : ρ} (hd : decode cc pc = .ok (.if_icmp .ge off, 3)) (ht : (pc : Int) + off = (tgt : Int)) (hp : pc + 3 = pc') (hf : (if y ≤ x then F1 else F2) = some r) (K1 : F1 = some r → sx_G d κ nL k n tgt lv st ws) (K2 : F2 = some r → sx_G d κ nL k n pc' lv st ws) : sx_G d κ nL k n pc lv (.int y :: .int x :: st) ws := by
  obtain ⟨⟨p, l, e, R, s, m, args, below, meth, c⟩, A, Q⟩ := κ
  obtain ⟨hx, hb, hml, hown, hts, hKK, hA, hR⟩ := X
  subst hp
  exact fun H locs ls hP hD hS hl => lv_icmp_ge hx hb hd ht (fun q => K1 (by rw [if_pos q] at hf; exact hf) H locs ls hP hD hS hl) (fun q => K2 (by rw [if_neg q] at hf; exact hf) H locs ls hP hD hS hl)
theorem g_icmp_ge_t (X : sx_X d κ cc nL own rm) {x y : Int32} {off : Int} {tgt : Nat} (hd : decode cc pc = .ok (.if_icmp .ge off, 3)) (ht : (pc : Int) + off = (tgt : Int)) (q : y ≤ x) (K1 : sx_G d κ nL k n tgt lv st ws) : sx_G d κ nL k n pc lv (.int y :: .int x :: st) ws := by
  obtain ⟨⟨p, l, e, R, s, m, args, below, meth, c⟩, A, Q⟩ := κ
  obtain ⟨hx, hb, hml, hown, hts, hKK, hA, hR⟩ := X
  exact fun H locs ls hP hD hS hl => lv_icmp_ge hx hb hd ht (fun _ => K1 H locs ls hP hD hS hl) (fun z => absurd q z)
theorem g_icmp_ge_f (X : sx_X d κ cc nL own rm) {x y : Int32} {off : Int} {tgt : Nat} (hd : decode cc pc = .ok (.if_icmp .ge off, 3)) (ht : (pc : Int) + off = (tgt : Int)) (hp : pc + 3 = pc') (q : ¬ (y ≤ x)) (K2 : sx_G d κ nL k n pc' lv st ws) : sx_G d κ nL k n pc lv (.int y :: .int x :: st) ws := by
  obtain ⟨⟨p, l, e, R, s, m, args, below, meth, c⟩, A, Q⟩ := κ
  obtain ⟨hx, hb, hml, hown, hts, hKK, hA, hR⟩ := X
  subst hp
  exact fun H locs ls hP hD hS hl => lv_icmp_ge hx hb hd ht (fun z => absurd z q) (fun _ => K2 H locs ls hP hD hS hl)
theorem g_if_gt (X : sx_X d κ cc nL own rm) {x : Int32} {off : Int} {tgt : Nat} {ρ : Type} {F1 F2 : Option ρ} {r : ρ} (hd : decode cc pc = .ok (.ifCond .gt off, 3)) (ht : (pc : Int) + off = (tgt : Int)) (hp : pc + 3 = pc') (hf : (if 0 < x then F1 else F2) = some r) (K1 : F1 = some r → sx_G d κ nL k n tgt lv st ws) (K2 : F2 = some r → sx_G d κ nL k n pc' lv st ws) : sx_G d κ nL k n pc lv (.int x :: st) ws := by
  obtain ⟨⟨p, l, e, R, s, m, args, below, meth, c⟩, A, Q⟩ := κ
  obtain ⟨hx, hb, hml, hown, hts, hKK, hA, hR⟩ := X
  subst hp
  exact fun H locs ls hP hD hS hl => lv_if_gt hx hb hd ht (fun q => K1 (by rw [if_pos q] at hf; exact hf) H locs ls hP hD hS hl) (fun q => K2 (by rw [if_neg q] at hf; exact hf) H locs ls hP hD hS hl)
theorem g_if_gt_t (X : sx_X d κ cc nL own rm) {x : Int32} {off : Int} {tgt : Nat} (hd : decode cc pc = .ok (.ifCond .gt off, 3)) (ht : (pc : Int) + off = (tgt : Int)) (q : 0 < x) (K1 : sx_G d κ nL k n tgt lv st ws) : sx_G d κ nL k n pc lv (.int x :: st) ws := by
  obtain ⟨⟨p, l, e, R, s, m, args, below, meth, c⟩, A, Q⟩ := κ
  obtain ⟨hx, hb, hml, hown, hts, hKK, hA, hR⟩ := X
  exact fun H locs ls hP hD hS hl => lv_if_gt hx hb hd ht (fun _ => K1 H locs ls hP hD hS hl) (fun z => absurd q z)
theorem g_if_gt_f (X : sx_X d κ cc nL own rm) {x : Int32} {off : Int} {tgt : Nat} (hd : decode cc pc = .ok (.ifCond .gt off, 3)) (ht : (pc : Int) + off = (tgt : Int)) (hp : pc + 3 = pc') (q : ¬ (0 < x)) (K2 : sx_G d κ nL k n pc' lv st ws) : sx_G d κ nL k n pc lv (.int x :: st) ws := by
  obtain ⟨⟨p, l, e, R, s, m, args, below, meth, c⟩, A, Q⟩ := κ
  obtain ⟨hx, hb, hml, hown, hts, hKK, hA, hR⟩ := X
  subst hp
  exact fun H locs ls hP hD hS hl => lv_if_gt hx hb hd ht (fun z => absurd z q) (fun _ => K2 H locs ls hP hD hS hl)
theorem g_icmp_gt (X : sx_X d κ cc nL own rm) {x y : Int32} {off : Int} {tgt : Nat} {ρ : Type} {F1 F2 : Option ρ} {r : ρ} (hd : decode cc pc = .ok (.if_icmp .gt off, 3)) (ht : (pc : Int) + off = (tgt : Int)) (hp : pc + 3 = pc') (hf : (if y < x then F1 else F2) = some r) (K1 : F1 = some r → sx_G d κ nL k n tgt lv st ws) (K2 : F2 = some r → sx_G d κ nL k n pc' lv st ws) : sx_G d κ nL k n pc lv (.int y :: .int x :: st) ws := by
  obtain ⟨⟨p, l, e, R, s, m, args, below, meth, c⟩, A, Q⟩ := κ
  obtain ⟨hx, hb, hml, hown, hts, hKK, hA, hR⟩ := X
  subst hp
  exact fun H locs ls hP hD hS hl => lv_icmp_gt hx hb hd ht (fun q => K1 (by rw [if_pos q] at hf; exact hf) H locs ls hP hD hS hl) (fun q => K2 (by rw [if_neg q] at hf; exact hf) H locs ls hP hD hS hl)
theorem g_icmp_gt_t (X : sx_X d κ cc nL own rm) {x y : Int32} {off : Int} {tgt : Nat} (hd : decode cc pc = .ok (.if_icmp .gt off, 3)) (ht : (pc : Int) + off = (tgt : Int)) (q : y < x) (K1 : sx_G d κ nL k n tgt lv st ws) : sx_G d κ nL k n pc lv (.int y :: .int x :: st) ws := by
  obtain ⟨⟨p, l, e, R, s, m, args, below, meth, c⟩, A, Q⟩ := κ
  obtain ⟨hx, hb, hml, hown, hts, hKK, hA, hR⟩ := X
  exact fun H locs ls hP hD hS hl => lv_icmp_gt hx hb hd ht (fun _ => K1 H locs ls hP hD hS hl) (fun z => absurd q z)
theorem g_icmp_gt_f (X : sx_X d κ cc nL own rm) {x y : Int32} {off : Int} {tgt : Nat} (hd : decode cc pc = .ok (.if_icmp .gt off, 3)) (ht : (pc : Int) + off = (tgt : Int)) (hp : pc + 3 = pc') (q : ¬ (y < x)) (K2 : sx_G d κ nL k n pc' lv st ws) : sx_G d κ nL k n pc lv (.int y :: .int x :: st) ws := by
  obtain ⟨⟨p, l, e, R, s, m, args, below, meth, c⟩, A, Q⟩ := κ
  obtain ⟨hx, hb, hml, hown, hts, hKK, hA, hR⟩ := X
  subst hp
  exact fun H locs ls hP hD hS hl => lv_icmp_gt hx hb hd ht (fun z => absurd z q) (fun _ => K2 H locs ls hP hD hS hl)
theorem g_if_le (X : sx_X d κ cc nL own rm) {x : Int32} {off : Int} {tgt : Nat} {ρ : Type} {F1 F2 : Option ρ} {r : ρ} (hd : decode cc pc = .ok (.ifCond .le off, 3)) (ht : (pc : Int) + off = (tgt : Int)) (hp : pc + 3 = pc') (hf : (if x ≤ 0 then F1 else F2) = some r) (K1 : F1 = some r → sx_G d κ nL k n tgt lv st ws) (K2 : F2 = some r → sx_G d κ nL k n pc' lv st ws) : sx_G d κ nL k n pc lv (.int x :: st) ws := by
  obtain ⟨⟨p, l, e, R, s, m, args, below, meth, c⟩, A, Q⟩ := κ
  obtain ⟨hx, hb, hml, hown, hts, hKK, hA, hR⟩ := X
  subst hp
  exact fun H locs ls hP hD hS hl => lv_if_le hx hb hd ht (fun q => K1 (by rw [if_pos q] at hf; exact hf) H locs ls hP hD hS hl) (fun q => K2 (by rw [if_neg q] at hf; exact hf) H locs ls hP hD hS hl)
theorem g_if_le_t (X : sx_X d κ cc nL own rm) {x : Int32} {off : Int} {tgt : Nat} (hd : decode cc pc = .ok (.ifCond .le off, 3)) (ht : (pc : Int) + off = (tgt : Int)) (q : x ≤ 0) (K1 : sx_G d κ nL k n tgt lv st ws) : sx_G d κ nL k n pc lv (.int x :: st) ws := by
  obtain ⟨⟨p, l, e, R, s, m, args, below, meth, c⟩, A, Q⟩ := κ
  obtain ⟨hx, hb, hml, hown, hts, hKK, hA, hR⟩ := X
  exact fun H locs ls hP hD hS hl => lv_if_le hx hb hd ht (fun _ => K1 H locs ls hP hD hS hl) (fun z => absurd q z)
theorem g_if_le_f (X : sx_X d κ cc nL own rm) {x : Int32} {off : Int} {tgt : Nat} (hd : decode cc pc = .ok (.ifCond .le off, 3)) (ht : (pc : Int) + off = (tgt : Int)) (hp : pc + 3 = pc') (q : ¬ (x ≤ 0)) (K2 : sx_G d κ nL k n pc' lv st ws) : sx_G d κ nL k n pc lv (.int x :: st) ws := by
  obtain ⟨⟨p, l, e, R, s, m, args, below, meth, c⟩, A, Q⟩ := κ
  obtain ⟨hx, hb, hml, hown, hts, hKK, hA, hR⟩ := X
  subst hp
  exact fun H locs ls hP hD hS hl => lv_if_le hx hb hd ht (fun z => absurd z q) (fun _ => K2 H locs ls hP hD hS hl)
theorem g_icmp_le (X : sx_X d κ cc nL own rm) {x y : Int32} {off : Int} {tgt : Nat} {ρ : Type} {F1 F2 : Option ρ} {r : ρ} (hd : decode cc pc = .ok (.if_icmp .le off, 3)) (ht : (pc : Int) + off = (tgt : Int)) (hp : pc + 3 = pc') (hf : (if x ≤ y then F1 else F2) = some r) (K1 : F1 = some r → sx_G d κ nL k n tgt lv st ws) (K2 : F2 = some r → sx_G d κ nL k n pc' lv st ws) : sx_G d κ nL k n pc lv (.int y :: .int x :: st) ws := by
  obtain ⟨⟨p, l, e, R, s, m, args, below, meth, c⟩, A, Q⟩ := κ
  obtain ⟨hx, hb, hml, hown, hts, hKK, hA, hR⟩ := X
  subst hp
  exact fun H locs ls hP hD hS hl => lv_icmp_le hx hb hd ht (fun q => K1 (by rw [if_pos q] at hf; exact hf) H locs ls hP hD hS hl) (fun q => K2 (by rw [if_neg q] at hf; exact hf) H locs ls hP hD hS hl)
theorem g_icmp_le_t (X : sx_X d κ cc nL own rm) {x y : Int32} {off : Int} {tgt : Nat} (hd : decode cc pc = .ok (.if_icmp .le off, 3)) (ht : (pc : Int) + off = (tgt : Int)) (q : x ≤ y) (K1 : sx_G d κ nL k n tgt lv st ws) : sx_G d κ nL k n pc lv (.int y :: .int x :: st) ws := by
  obtain ⟨⟨p, l, e, R, s, m, args, below, meth, c⟩, A, Q⟩ := κ
  obtain ⟨hx, hb, hml, hown, hts, hKK, hA, hR⟩ := X
  exact fun H locs ls hP hD hS hl => lv_icmp_le hx hb hd ht (fun _ => K1 H locs ls hP hD hS hl) (fun z => absurd q z)
theorem g_icmp_le_f (X : sx_X d κ cc nL own rm) {x y : Int32} {off : Int} {tgt : Nat} (hd : decode cc pc = .ok (.if_icmp .le off, 3)) (ht : (pc : Int) + off = (tgt : Int)) (hp : pc + 3 = pc') (q : ¬ (x ≤ y)) (K2 : sx_G d κ nL k n pc' lv st ws) : sx_G d κ nL k n pc lv (.int y :: .int x :: st) ws := by
  obtain ⟨⟨p, l, e, R, s, m, args, below, meth, c⟩, A, Q⟩ := κ
  obtain ⟨hx, hb, hml, hown, hts, hKK, hA, hR⟩ := X
  subst hp
  exact fun H locs ls hP hD hS hl => lv_icmp_le hx hb hd ht (fun z => absurd z q) (fun _ => K2 H locs ls hP hD hS hl)
theorem g_goto (X : sx_X d κ cc nL own rm) {off : Int} {tgt : Nat} (hd : decode cc pc = .ok (.goto off, 3)) (ht : (pc : Int) + off = (tgt : Int)) (K : sx_G d κ nL k n tgt lv st ws) : sx_G d κ nL k n pc lv st ws := by
  obtain ⟨⟨p, l, e, R, s, m, args, below, meth, c⟩, A, Q⟩ := κ
  obtain ⟨hx, hb, hml, hown, hts, hKK, hA, hR⟩ := X
  exact fun H locs ls hP hD hS hl => lv_goto hx hb hd ht (K H locs ls hP hD hS hl)
theorem g_ifnull (X : sx_X d κ cc nL own rm) {x : Nat} {off : Int} (hd : decode cc pc = .ok (.ifnull off, 3)) (hp : pc + 3 = pc') (K : sx_G d κ nL k n pc' lv st ws) : sx_G d κ nL k n pc lv (.ref x :: st) ws := by
  obtain ⟨⟨p, l, e, R, s, m, args, below, meth, c⟩, A, Q⟩ := κ
  obtain ⟨hx, hb, hml, hown, hts, hKK, hA, hR⟩ := X
  subst hp
  exact fun H locs ls hP hD hS hl => lv_ifnull hx hb hd (K H locs ls hP hD hS hl)
theorem g_tabIn (X : sx_X d κ cc nL own rm) {dflt lo hi : Int} {offs : Array Int} {len : Nat} {x : Int32} {off : Int} {tgt : Nat} (hd : decode cc pc = .ok (.tableswitch dflt lo hi offs, len)) (h1 : ¬ x.toInt < lo) (h2 : ¬ hi < x.toInt) (ho : offs[(x.toInt - lo).toNat]? = some off) (ht : (pc : Int) + off = (tgt : Int)) (K : sx_G d κ nL k n tgt lv st ws) : sx_G d κ nL k n pc lv (.int x :: st) ws := by
  obtain ⟨⟨p, l, e, R, s, m, args, below, meth, c⟩, A, Q⟩ := κ
  obtain ⟨hx, hb, hml, hown, hts, hKK, hA, hR⟩ := X
  exact fun H locs ls hP hD hS hl => lv_tableIn hx hb hd h1 h2 ho ht (K H locs ls hP hD hS hl)
theorem g_tabOut (X : sx_X d κ cc nL own rm) {dflt lo hi : Int} {offs : Array Int} {len : Nat} {x : Int32} {tgt : Nat} (hd : decode cc pc = .ok (.tableswitch dflt lo hi offs, len)) (h : x.toInt < lo ∨ hi < x.toInt) (ht : (pc : Int) + dflt = (tgt : Int)) (K : sx_G d κ nL k n tgt lv st ws) : sx_G d κ nL k n pc lv (.int x :: st) ws := by
  obtain ⟨⟨p, l, e, R, s, m, args, below, meth, c⟩, A, Q⟩ := κ
  obtain ⟨hx, hb, hml, hown, hts, hKK, hA, hR⟩ := X
  exact fun H locs ls hP hD hS hl => lv_tableOut hx hb hd h ht (K H locs ls hP hD hS hl)
/-- a field's link: by the tables, or as a nest mate's -/
def sx_fl (own ref : String) (index : Nat) (C : String) (T : u_T) (N ci j : Nat) : Prop := vwCl[ci]? = some (C, T, N) ∧ j < N ∧ (∀ w ∈ u_ws C T N, w ∈ sx_gw) ∧ (T j).1 = ref ∧ (Cond.fieldLink own index ref (T j).2.1 (T j).2.2.1 ∈ sx_gw ∨ ∃ host, Cond.fieldLinkNest own index ref (T j).2.1 (T j).2.2.1 host ∈ lw_tbl)
theorem g_get (X : sx_X d κ cc nL own rm) {ref C : String} {T : u_T} {N ci j index a : Nat} {v : Value} {fs : List Value} (fl : sx_fl own ref index C T N ci j) (hd : decode cc pc = .ok (.getfield index, 3)) (hp : pc + 3 = pc') (q0 : Nat) (he : ws[q0]? = some (a, .inr (ci, fs))) (hv : fs[j]? = some v) (K : sx_G d κ nL k n pc' lv (v :: st) ws) : sx_G d κ nL k n pc lv (.ref a :: st) ws := by
  obtain ⟨⟨p, l, e, R, s, m, args, below, meth, c⟩, A, Q⟩ := κ
  obtain ⟨hx, hb, hml, hown, hts, hKK, hA, hR⟩ := X
  subst hp
  obtain ⟨hc, hk, hin, rfl, hln⟩ := fl
  intro H locs ls hP hD hS hl
  rcases hln with hln | ⟨host, hln⟩
  · exact va_get hx hb hts hin hown hKK.1 hP q0 he hc j hk (hts _ hln) (fun _ h9 => h9) hv hd (K H locs ls hP hD hS hl)
  · exact va_getN hx hb hts hin hown hKK.1 hP q0 he hc j hk (va_Nw.use rfl (hKK.2 _ hln rfl)) (fun _ h9 => h9) hv hd (K H locs ls hP hD hS hl)
/-- what a store wants of a field's table -/
def sx_fw (T : u_T) (N : Nat) (ty0 : Nat → FieldType) : Prop := (∀ k, k < N → parseFieldDescriptor (T k).2.2.1 = some (ty0 k)) ∧ (∀ a, a < N → ∀ b, b < N → a ≠ b → (T a).2.1 ≠ (T b).2.1)
theorem g_put (X : sx_X d κ cc nL own rm) {ref C : String} {T : u_T} {N ci j index a : Nat} {v : Value} {fs : List Value} {w2 : va_W} {ty0 : Nat → FieldType} (fl : sx_fl own ref index C T N ci j) (fw : sx_fw T N ty0) (hfin : (T j).2.2.2 = false) (hd : decode cc pc = .ok (.putfield index, 3)) (hp : pc + 3 = pc') (q0 : Nat) (he : ws[q0]? = some (a, .inr (ci, fs))) (hn : narrow (ty0 j) v = v) (hfit : fits (ty0 j) v = true) (hl0 : j < fs.length) (hw : ws.set q0 (a, .inr (ci, fs.set j v)) = w2) (K : sx_G d κ nL k n pc' lv st w2) : sx_G d κ nL k n pc lv (v :: .ref a :: st) ws := by
  obtain ⟨⟨p, l, e, R, s, m, args, below, meth, c⟩, A, Q⟩ := κ
  obtain ⟨hx, hb, hml, hown, hts, hKK, hA, hR⟩ := X
  subst hp
  subst hw
  obtain ⟨hc, hk, hin, rfl, hln⟩ := fl
  intro H locs ls hP hD hS hl
  rcases hln with hln | ⟨host, hln⟩
  · exact va_put hx hb hts hin ty0 fw.1 fw.2 hown hKK.1 hP hD hS q0 he hc j hk (hts _ hln) (fun _ h9 => h9) hfin (fw.1 j hk) hn hfit hl0 hd (fun H locs hP hD hS => K H locs ls hP hD hS hl)
  · exact va_putN hx hb hts hin ty0 fw.1 fw.2 hown hKK.1 hP hD hS q0 he hc j hk (va_Nw.use rfl (hKK.2 _ hln rfl)) (fun _ h9 => h9) hfin (fw.1 j hk) hn hfit hl0 hd (fun H locs hP hD hS => K H locs ls hP hD hS hl)
theorem g_iald (X : sx_X d κ cc nL own rm) {a N : Nat} {f : Nat → Int32} {i : Int32} {ρ : Type} {F : Int32 → Option ρ} {r : ρ} (hd : decode cc pc = .ok (.iaload, 1)) (hp : pc + 1 = pc') (q0 : Nat) (ha : ws[q0]? = some (a, .inl (d.2.1, N, .inl f))) (hf : sx_rd f N i F = some r) (K : ∀ v : Int32, F v = some r → sx_G d κ nL k n pc' lv (.int v :: st) ws) : sx_G d κ nL k n pc lv (.int i :: .ref a :: st) ws := by
  obtain ⟨⟨p, l, e, R, s, m, args, below, meth, c⟩, A, Q⟩ := κ
  obtain ⟨hx, hb, hml, hown, hts, hKK, hA, hR⟩ := X
  subst hp
  unfold sx_rd at hf
  intro H locs ls hP hD hS hl
  by_cases h : i < 0 ∨ N ≤ i.toNatClampNeg
  · rw [if_pos h] at hf; cases hf
  · rw [if_neg h] at hf
    exact va_iald hx hb hKK.1 hP q0 0 ha rfl h hd (K _ hf H locs ls hP hD hS hl)
theorem g_cald (X : sx_X d κ cc nL own rm) {a N : Nat} {f : Nat → Int32} {i : Int32} {ρ : Type} {F : Int32 → Option ρ} {r : ρ} (hd : decode cc pc = .ok (.caload, 1)) (hp : pc + 1 = pc') (q0 : Nat) (ha : ws[q0]? = some (a, .inl (d.2.2, N, .inl f))) (hf : sx_rd f N i F = some r) (K : ∀ v : Int32, F v = some r → sx_G d κ nL k n pc' lv (.int v :: st) ws) : sx_G d κ nL k n pc lv (.int i :: .ref a :: st) ws := by
  obtain ⟨⟨p, l, e, R, s, m, args, below, meth, c⟩, A, Q⟩ := κ
  obtain ⟨hx, hb, hml, hown, hts, hKK, hA, hR⟩ := X
  subst hp
  unfold sx_rd at hf
  intro H locs ls hP hD hS hl
  by_cases h : i < 0 ∨ N ≤ i.toNatClampNeg
  · rw [if_pos h] at hf; cases hf
  · rw [if_neg h] at hf
    exact va_cald hx hb hKK.1 hP q0 1 ha rfl h hd (K _ hf H locs ls hP hD hS hl)
theorem g_iast (X : sx_X d κ cc nL own rm) {a N : Nat} {f : Nat → Int32} {i x : Int32} {ρ : Type} {F : (Nat → Int32) → Option ρ} {r : ρ} {w2 : (Nat → Int32) → va_W} (hd : decode cc pc = .ok (.iastore, 1)) (hp : pc + 1 = pc') (q0 : Nat) (ha : ws[q0]? = some (a, .inl (d.2.1, N, .inl f))) (hf : sx_wr f N i x F = some r) (hw : ∀ g : Nat → Int32, ws.set q0 (a, .inl (d.2.1, N, .inl g)) = w2 g) (K : ∀ g : Nat → Int32, F g = some r → sx_G d κ nL k n pc' lv st (w2 g)) : sx_G d κ nL k n pc lv (.int x :: .int i :: .ref a :: st) ws := by
  obtain ⟨⟨p, l, e, R, s, m, args, below, meth, c⟩, A, Q⟩ := κ
  obtain ⟨hx, hb, hml, hown, hts, hKK, hA, hR⟩ := X
  subst hp
  unfold sx_wr at hf
  intro H locs ls hP hD hS hl
  by_cases h : i < 0 ∨ N ≤ i.toNatClampNeg
  · rw [if_pos h] at hf; cases hf
  · rw [if_neg h] at hf
    refine va_iast hx hb hKK.1 hP hD hS q0 0 ha rfl h hd (fun H locs hP hD hS => ?_)
    rw [hw] at hP hD
    exact K _ hf H locs ls hP hD hS hl
theorem g_cast (X : sx_X d κ cc nL own rm) {a N : Nat} {f : Nat → Int32} {i x : Int32} {ρ : Type} {F : (Nat → Int32) → Option ρ} {r : ρ} {w2 : (Nat → Int32) → va_W} (hd : decode cc pc = .ok (.castore, 1)) (hp : pc + 1 = pc') (q0 : Nat) (ha : ws[q0]? = some (a, .inl (d.2.2, N, .inl f))) (hf : sx_wr f N i (vp_nar .char x) F = some r) (hw : ∀ g : Nat → Int32, ws.set q0 (a, .inl (d.2.2, N, .inl g)) = w2 g) (K : ∀ g : Nat → Int32, F g = some r → sx_G d κ nL k n pc' lv st (w2 g)) : sx_G d κ nL k n pc lv (.int x :: .int i :: .ref a :: st) ws := by
  obtain ⟨⟨p, l, e, R, s, m, args, below, meth, c⟩, A, Q⟩ := κ
  obtain ⟨hx, hb, hml, hown, hts, hKK, hA, hR⟩ := X
  subst hp
  unfold sx_wr at hf
  intro H locs ls hP hD hS hl
  by_cases h : i < 0 ∨ N ≤ i.toNatClampNeg
  · rw [if_pos h] at hf; cases hf
  · rw [if_neg h] at hf
    refine va_cast hx hb hKK.1 hP hD hS q0 1 ha rfl h hd (fun H locs hP hD hS => ?_)
    rw [hw] at hP hD
    exact K _ hf H locs ls hP hD hS hl
theorem g_alen (X : sx_X d κ cc nL own rm) {a N : Nat} {f : Nat → Int32} (hd : decode cc pc = .ok (.arraylength, 1)) (hp : pc + 1 = pc') (q0 : Nat) (ha : ws[q0]? = some (a, .inl (d.2.1, N, .inl f))) (K : sx_G d κ nL k n pc' lv (.int (Int32.ofNat N) :: st) ws) : sx_G d κ nL k n pc lv (.ref a :: st) ws := by
  obtain ⟨⟨p, l, e, R, s, m, args, below, meth, c⟩, A, Q⟩ := κ
  obtain ⟨hx, hb, hml, hown, hts, hKK, hA, hR⟩ := X
  subst hp
  exact fun H locs ls hP hD hS hl => va_alen hx hb hKK.1 hP q0 0 ha (ty := .int) rfl rfl hd (K H locs ls hP hD hS hl)
/-- arraycopy among int arrays; Math.max, Math.min -/
def sx_nv (own : String) (index : Nat) : Prop := Cond.methodLink own index arraycopyName ∈ sx_gw ∧ Cond.native arraycopyName ∈ sx_gw ∧ Cond.static arraycopyName ∈ sx_gw ∧ Cond.initialized "java/lang/System" ∈ sx_gw
theorem g_copy (X : sx_X d κ cc nL own rm) {index a a0 n0 n1 : Nat} {f g : Nat → Int32} {sp dp m0 : Int32} {ρ : Type} {F : (Nat → Int32) → Option ρ} {r : ρ} {w2 : (Nat → Int32) → va_W} (nv : sx_nv own index) (hd : decode cc pc = .ok (.invokestatic index, 3)) (hp : pc + 3 = pc') (q0 q1 : Nat) (ha0 : ws[q0]? = some (a0, .inl (d.2.1, n0, .inl f))) (ha1 : ws[q1]? = some (a, .inl (d.2.1, n1, .inl g))) (hrm : 1 ≤ rm.frames ∧ (st.map fun v => v.category).sum + (nativeFrameWords "java/lang/System" "arraycopy" 5 + 11) ≤ rm.locals) (hf : sx_cp f g n0 n1 sp dp m0 F = some r) (hw : ∀ h : Nat → Int32, ws.set q1 (a, .inl (d.2.1, n1, .inl h)) = w2 h) (K : ∀ h : Nat → Int32, F h = some r → sx_G d κ nL k n pc' lv st (w2 h)) : sx_G d κ nL k n pc lv (.int m0 :: .int dp :: .ref a :: .int sp :: .ref a0 :: st) ws := by
  obtain ⟨⟨p, l, e, R, s, m, args, below, meth, c⟩, A, Q⟩ := κ
  obtain ⟨hx, hb, hml, hown, hts, hKK, hA, hR⟩ := X
  subst hp
  subst hR
  obtain ⟨n1', n2, n3, n4⟩ := nv
  unfold sx_cp at hf
  intro H locs ls hP hD hS hl
  by_cases h : sp < 0 ∨ dp < 0 ∨ m0 < 0 ∨ n0 < sp.toNatClampNeg + m0.toNatClampNeg ∨ n1 < dp.toNatClampNeg + m0.toNatClampNeg
  · rw [if_pos h] at hf; cases hf
  · rw [if_neg h] at hf
    simp only [not_or, Nat.not_lt] at h
    obtain ⟨h1, h2, h3, h4, h5⟩ := h
    refine va_copyi hx hb (by rw [hml, hl.1]) hown (hts _ n1') (hts _ n2) (hts _ n3) (hts _ n4) hKK.1 hP hD hS q0 q1 0 0 (ty := .int) ha0 ha1 rfl rfl rfl h1 h2 h3 h4 h5 (fun _ _ => rfl) hrm.1 hrm.2 hd (fun H locs hP hD hS => ?_)
    rw [hw] at hP hD
    exact K _ hf H locs ls hP hD hS hl
def sx_mx (own : String) (index : Nat) : Prop := Cond.methodLink own index Lib.Math.max.name ∈ sx_gw ∧ Cond.static Lib.Math.max.name ∈ sx_gw ∧ Cond.initialized "java/lang/Math" ∈ sx_gw ∧ Cond.code Lib.Math.max.name Lib.Math.max.code 2 (some .int) ∈ sx_gw
def sx_mn (own : String) (index : Nat) : Prop := Cond.methodLink own index Lib.Math.min.name ∈ sx_gw ∧ Cond.static Lib.Math.min.name ∈ sx_gw ∧ Cond.initialized "java/lang/Math" ∈ sx_gw ∧ Cond.code Lib.Math.min.name Lib.Math.min.code 2 (some .int) ∈ sx_gw
theorem g_max (X : sx_X d κ cc nL own rm) {index : Nat} {x y : Int32} (nv : sx_mx own index) (hd : decode cc pc = .ok (.invokestatic index, 3)) (hp : pc + 3 = pc') (hrm : 1 ≤ rm.frames ∧ (st.map fun v => v.category).sum + 13 ≤ rm.locals ∧ k ≤ rm.cells ∧ n ≤ rm.slots) (K : sx_G d κ nL k n pc' lv (.int (if x < y then y else x) :: st) ws) : sx_G d κ nL k n pc lv (.int y :: .int x :: st) ws := by
  obtain ⟨⟨p, l, e, R, s, m, args, below, meth, c⟩, A, Q⟩ := κ
  obtain ⟨hx, hb, hml, hown, hts, hKK, hA, hR⟩ := X
  subst hp
  subst hR
  exact fun H locs ls hP hD hS hl => va_mmax hx hb (by rw [hml, hl.1]) hown (hts _ nv.1) (hts _ nv.2.1) (hts _ nv.2.2.1) (hts _ nv.2.2.2) hrm.1 hrm.2.1 hrm.2.2.1 hrm.2.2.2 hd (K H locs ls hP hD hS hl)
theorem g_min (X : sx_X d κ cc nL own rm) {index : Nat} {x y : Int32} (nv : sx_mn own index) (hd : decode cc pc = .ok (.invokestatic index, 3)) (hp : pc + 3 = pc') (hrm : 1 ≤ rm.frames ∧ (st.map fun v => v.category).sum + 13 ≤ rm.locals ∧ k ≤ rm.cells ∧ n ≤ rm.slots) (K : sx_G d κ nL k n pc' lv (.int (if y < x then y else x) :: st) ws) : sx_G d κ nL k n pc lv (.int y :: .int x :: st) ws := by
  obtain ⟨⟨p, l, e, R, s, m, args, below, meth, c⟩, A, Q⟩ := κ
  obtain ⟨hx, hb, hml, hown, hts, hKK, hA, hR⟩ := X
  subst hp
  subst hR
  exact fun H locs ls hP hD hS hl => va_mmin hx hb (by rw [hml, hl.1]) hown (hts _ nv.1) (hts _ nv.2.1) (hts _ nv.2.2.1) (hts _ nv.2.2.2) hrm.1 hrm.2.1 hrm.2.2.1 hrm.2.2.2 hd (K H locs ls hP hD hS hl)
end SX
end
section
def sx_rm (h : Nat) : Room := { frames := h, cells := 0, slots := 0, locals := 40 * h }
def sx_B (d : sx_D) (wc : va_W) (sz : Nat) (U : State) : Prop := U.heap.size = sz ∧ va_P d.1 vwCl wc U.heap ∧ sx_KK d U ∧ va_D (fun _ => True) wc
def sx_I (l : Launch) (d : sx_D) (y : MethodName) (cc : ByteArray) (mL : Nat) (ret : FieldType) (h : Nat) (av : List Value) (wc w1 : va_W) (r : Int32) : Prop := ∀ sz : Nat, Met l y (.code y cc mL (some ret) :: sx_gw) (sx_rm h) (va_Pc av (sx_B d wc sz)) (va_Qi (fun x (_ : Unit) => x = r ∧ narrow ret (.int r) = .int r) (fun _ t => va_P d.1 vwCl w1 t.heap) (va_A wc sz)) 0 0 (va_A wc sz)
def sx_L (l : Launch) (d : sx_D) (y : MethodName) (cc : ByteArray) (mL : Nat) (h : Nat) (av : List Value) (wc w1 : va_W) (r : Int64) : Prop := ∀ sz : Nat, Met l y (.code y cc mL (some .long) :: sx_gw) (sx_rm h) (va_Pc av (sx_B d wc sz)) (va_Ql (fun x (_ : Unit) => x = r) (fun _ t => va_P d.1 vwCl w1 t.heap) (va_A wc sz)) 0 0 (va_A wc sz)
def sx_V (l : Launch) (d : sx_D) (y : MethodName) (cc : ByteArray) (mL : Nat) (h : Nat) (av : List Value) (wc w1 : va_W) : Prop := ∀ sz : Nat, Met l y (.code y cc mL none :: sx_gw) (sx_rm h) (va_Pc av (sx_B d wc sz)) (va_Qv (fun (_ : Unit) => True) (fun _ t => va_P d.1 vwCl w1 t.heap) (va_A wc sz)) 0 0 (va_A wc sz)
/-- a contract's beginning; also for a method of the JDK -/
theorem sx_ofW {l : Launch} {y : MethodName} {ws ws' : List Cond} {rm : Room} {Pc : Array Value → State → Prop} {Qc : Array Value → State → Outcome → State → Prop} {mc ms : Nat} {free : Addr → Prop} {cc : ByteArray} {maxL : Nat} {ret : Option FieldType}
    (hy : plainFor y = true) (hw : ws = Cond.code y cc maxL ret :: ws')
    (body : ∀ p e s m args below meth c s₁, BodyLoose p l y (headSpec ws rm) cc maxL ret e s m args below meth c s₁ → c.maxLocals = maxL → Pc args s →
      W p l e (headSpec ws rm).room s m args below meth c s.heap [] 0 0 (MQ below Qc args s mc ms free) (entryFrame m args maxL)) : Met l y ws rm Pc Qc mc ms free := by
  refine MetFree.of_bodySF (code := cc) (maxLocals := maxL) (ret := ret) hy ?_ ?_
  · intro args s m h hn
    obtain ⟨meth, c, h1, h2, h3, h4, h5, h6, -, -⟩ := Cond.code_spec hn (atoms_spec (ws := ws) h _ (by rw [hw]; exact List.mem_cons_self))
    exact ⟨meth, c, h1, h2, h3, h4, h5, h6⟩
  · intro p e s m args below meth c s₁ B hml hP _
    have hh0 : s₁.heap = s.heap := by rw [B.state]; rfl
    obtain ⟨t, a1, o, b1, b2, b3⟩ := body p e s m args below meth c s₁ B hml hP s₁ hh0 (Stand.of_body B)
    exact ⟨t, o, a1, b1, b2, ⟨b3.1, b3.2⟩⟩
theorem sx_I.intro {l : Launch} {d : sx_D} {y : MethodName} {cc : ByteArray} {mL : Nat} {ret : FieldType} {h : Nat} {av : List Value} {wc w1 : va_W} {r : Int32} {lv0 : List (Option Value)} (hy : plainFor y = true) (hlen : (lg_sl av).length ≤ mL) (hlv : lv_args 0 av = sx_al 0 lv0)
    (body : ∀ κ : sx_C, sx_X d κ cc mL y.cls (sx_rm h) → (∀ (pc : Nat) (lv : List (Option Value)), decode cc pc = .ok (.ireturn, 1) → narrow ret (.int r) = .int r → sx_G d κ mL 0 0 pc lv [.int r] w1) → sx_G d κ mL 0 0 0 lv0 [] wc) : sx_I l d y cc mL ret h av wc w1 r := by
  intro sz
  refine sx_ofW (cc := cc) (maxL := mL) (ret := (some ret)) hy rfl ?_
  intro p e s m args below meth c s₁ B hml hv
  obtain ⟨rfl, hsz, hP, hKK, hD0⟩ := hv
  have hlocks := B.notSynchronized
  subst hsz
  have hl := lv_entry av (n := mL) hlen
  rw [lg_entry_eq]
  generalize (lg_sl av ++ List.replicate (mL - (lg_sl av).length) Slot.unset).toArray = ls at hl ⊢
  rw [hlv] at hl
  refine body ((p, l, e, (headSpec _ (sx_rm h)).room, s, m, av.toArray, below, meth, c), va_A wc s.heap.size, _) ⟨B.exec, B.bytes, hml, findClass_of_methodNamed B.named, fun w hw => atoms_spec B.pre w (List.mem_cons_of_mem _ hw), hKK, fun q h => Or.inr h, rfl⟩ ?_ s.heap [] ls hP hD0.self va_S.rf hl
  intro pc lv hd hn H locs ls hP hD hS hl
  exact W.zret B.exec B.bytes B.returns hn (fun t ht hW => ⟨⟨r, (), rfl, ⟨rfl, hn⟩, by show va_P d.1 vwCl w1 t.heap; rw [ht]; exact hP⟩, hS.F ht⟩) hS.2.2 hd (hlocks := hlocks)
theorem sx_L.intro {l : Launch} {d : sx_D} {y : MethodName} {cc : ByteArray} {mL : Nat} {h : Nat} {av : List Value} {wc w1 : va_W} {r : Int64} {lv0 : List (Option Value)} (hy : plainFor y = true) (hlen : (lg_sl av).length ≤ mL) (hlv : lv_args 0 av = sx_al 0 lv0)
    (body : ∀ κ : sx_C, sx_X d κ cc mL y.cls (sx_rm h) → (∀ (pc : Nat) (lv : List (Option Value)), decode cc pc = .ok (.lreturn, 1) → sx_G d κ mL 0 0 pc lv [.long r] w1) → sx_G d κ mL 0 0 0 lv0 [] wc) : sx_L l d y cc mL h av wc w1 r := by
  intro sz
  refine sx_ofW (cc := cc) (maxL := mL) (ret := (some .long)) hy rfl ?_
  intro p e s m args below meth c s₁ B hml hv
  obtain ⟨rfl, hsz, hP, hKK, hD0⟩ := hv
  have hlocks := B.notSynchronized
  subst hsz
  have hl := lv_entry av (n := mL) hlen
  rw [lg_entry_eq]
  generalize (lg_sl av ++ List.replicate (mL - (lg_sl av).length) Slot.unset).toArray = ls at hl ⊢
  rw [hlv] at hl
  refine body ((p, l, e, (headSpec _ (sx_rm h)).room, s, m, av.toArray, below, meth, c), va_A wc s.heap.size, _) ⟨B.exec, B.bytes, hml, findClass_of_methodNamed B.named, fun w hw => atoms_spec B.pre w (List.mem_cons_of_mem _ hw), hKK, fun q h => Or.inr h, rfl⟩ ?_ s.heap [] ls hP hD0.self va_S.rf hl
  intro pc lv hd H locs ls hP hD hS hl
  exact W.lret B.exec B.bytes B.returns (fun t ht hW => ⟨⟨r, (), rfl, rfl, by show va_P d.1 vwCl w1 t.heap; rw [ht]; exact hP⟩, hS.F ht⟩) hS.2.2 hd (hlocks := hlocks)
theorem sx_V.intro {l : Launch} {d : sx_D} {y : MethodName} {cc : ByteArray} {mL : Nat} {h : Nat} {av : List Value} {wc w1 : va_W} {lv0 : List (Option Value)} (hy : plainFor y = true) (hlen : (lg_sl av).length ≤ mL) (hlv : lv_args 0 av = sx_al 0 lv0)
    (body : ∀ κ : sx_C, sx_X d κ cc mL y.cls (sx_rm h) → (∀ (pc : Nat) (lv : List (Option Value)), decode cc pc = .ok (.return_, 1) → sx_G d κ mL 0 0 pc lv [] w1) → sx_G d κ mL 0 0 0 lv0 [] wc) : sx_V l d y cc mL h av wc w1 := by
  intro sz
  refine sx_ofW (cc := cc) (maxL := mL) (ret := none) hy rfl ?_
  intro p e s m args below meth c s₁ B hml hv
  obtain ⟨rfl, hsz, hP, hKK, hD0⟩ := hv
  have hlocks := B.notSynchronized
  subst hsz
  have hl := lv_entry av (n := mL) hlen
  rw [lg_entry_eq]
  generalize (lg_sl av ++ List.replicate (mL - (lg_sl av).length) Slot.unset).toArray = ls at hl ⊢
  rw [hlv] at hl
  refine body ((p, l, e, (headSpec _ (sx_rm h)).room, s, m, av.toArray, below, meth, c), va_A wc s.heap.size, _) ⟨B.exec, B.bytes, hml, findClass_of_methodNamed B.named, fun w hw => atoms_spec B.pre w (List.mem_cons_of_mem _ hw), hKK, fun q h => Or.inr h, rfl⟩ ?_ s.heap [] ls hP hD0.self va_S.rf hl
  intro pc lv hd H locs ls hP hD hS hl
  exact W.vret B.exec B.bytes B.returns (fun t ht hW => ⟨⟨(), rfl, trivial, by show va_P d.1 vwCl w1 t.heap; rw [ht]; exact hP⟩, hS.F ht⟩) hS.2.2 hd (hlocks := hlocks)
theorem sx_B_blind {d : sx_D} {av : List Value} {wc : va_W} {sz : Nat} : FrameBlind (va_Pc av (sx_B d wc sz)) := fun a U g mk q => by
  obtain ⟨q0, q1, qP, qK, qD⟩ := q
  exact ⟨q0, q1, qP, sx_KK.same (s := U) (U := U.calling g mk a) rfl qK, qD⟩
/-- the cells at the places is, anew -/
def sx_put : va_W → List Nat → va_W → va_W
  | ws, i :: is, c :: cs => sx_put (ws.set i c) is cs
  | ws, _, _ => ws
theorem sx_put_at : ∀ (is : List Nat) (w1 ws : va_W) (k : Nat) (q : Nat × va_E), is.length = w1.length → (sx_put ws is w1)[k]? = some q → (∃ i : Nat, is[i]? = some k ∧ w1[i]? = some q) ∨ (k ∉ is ∧ ws[k]? = some q)
  | [], [], ws, k, q, _, h => Or.inr ⟨by simp, h⟩
  | [], _ :: _, ws, k, q, hl, h => by simp at hl
  | _ :: _, [], ws, k, q, hl, h => by simp at hl
  | i :: is, c :: cs, ws, k, q, hl, h => by
    rw [sx_put] at h
    rcases sx_put_at is cs (ws.set i c) k q (by simpa using hl) h with ⟨j, h1, h2⟩ | ⟨h1, h2⟩
    · exact Or.inl ⟨j + 1, by rw [List.getElem?_cons_succ]; exact h1, by rw [List.getElem?_cons_succ]; exact h2⟩
    · by_cases e : i = k
      · subst e
        have hl2 : i < ws.length := by
          have := (List.getElem?_eq_some_iff.mp h2).1
          simpa using this
        rw [List.getElem?_set_self hl2] at h2
        cases h2
        exact Or.inl ⟨0, rfl, rfl⟩
      · rw [List.getElem?_set_ne e] at h2
        exact Or.inr ⟨by simp only [List.mem_cons, not_or]; exact ⟨fun z => e z.symm, h1⟩, h2⟩
theorem sx_put_P {A : Nat → Prop} {D : va_G} {cl : List vw_C} {ws wc w1 : va_W} {H H1 : Heap} (hP : va_P D cl ws H) (hD : va_D A ws) (isC : List Nat) (hC : isC.map (fun i => ws[i]?) = wc.map some) (hm : w1.map Prod.fst = wc.map Prod.fst)
    (hk : ∀ q : Nat, q < H.size → ¬ va_A wc H.size q → H1[q]? = H[q]?) (hP1 : va_P D cl w1 H1) : va_P D cl (sx_put ws isC w1) H1 ∧ va_D A (sx_put ws isC w1) := by
  have hlen : isC.length = w1.length := by
    have h1 := congrArg List.length hC
    have h2 := congrArg List.length hm
    simp only [List.length_map] at h1 h2
    omega
  have atC : ∀ (i : Nat) (q : Nat × va_E), w1[i]? = some q → ∃ (k : Nat) (e : va_E), isC[i]? = some k ∧ ws[k]? = some (q.1, e) := by
    intro i q hq
    have h1 : (w1.map Prod.fst)[i]? = some q.1 := by rw [List.getElem?_map, hq]; rfl
    rw [hm, List.getElem?_map] at h1
    cases hw : wc[i]? with
    | none => rw [hw] at h1; cases h1
    | some c =>
      rw [hw] at h1
      have h2 : (isC.map (fun i => ws[i]?))[i]? = some (some c) := by rw [hC, List.getElem?_map, hw]; rfl
      rw [List.getElem?_map] at h2
      cases hi : isC[i]? with
      | none => rw [hi] at h2; cases h2
      | some k =>
        rw [hi] at h2
        refine ⟨k, c.2, rfl, ?_⟩
        have h3 : ws[k]? = some c := Option.some.inj h2
        have h4 : c.1 = q.1 := Option.some.inj h1
        rw [h3, ← h4]
  have addr : ∀ (k : Nat) (q : Nat × va_E), (sx_put ws isC w1)[k]? = some q → ∃ e : va_E, ws[k]? = some (q.1, e) := by
    intro k q h
    rcases sx_put_at isC w1 ws k q hlen h with ⟨i, h1, h2⟩ | ⟨h1, h2⟩
    · obtain ⟨k', e, h3, h4⟩ := atC i q h2
      rw [h1] at h3
      cases h3
      exact ⟨e, h4⟩
    · exact ⟨q.2, h2⟩
  refine ⟨fun k q h => ?_, fun i j x y hx hy hxy => ?_, fun k q h => ?_⟩
  · rcases sx_put_at isC w1 ws k q hlen h with ⟨i, h1, h2⟩ | ⟨h1, h2⟩
    · exact hP1 i q h2
    · have hlt := (hP k q h2).lt
      refine (hP k q h2).kept (hk q.1 hlt fun hA => ?_)
      rcases hA with ⟨j, e, hj⟩ | hz
      · have h3 : (isC.map (fun i => ws[i]?))[j]? = some (some (q.1, e)) := by rw [hC, List.getElem?_map, hj]; rfl
        rw [List.getElem?_map] at h3
        cases hi : isC[j]? with
        | none => rw [hi] at h3; cases h3
        | some k' =>
          rw [hi] at h3
          have h4 := hD.1 k k' q (q.1, e) h2 (Option.some.inj h3) rfl
          subst h4
          exact h1 (List.mem_of_getElem? hi)
      · omega
  · obtain ⟨e1, h1⟩ := addr i x hx
    obtain ⟨e2, h2⟩ := addr j y hy
    exact hD.1 i j _ _ h1 h2 hxy
  · obtain ⟨e, h1⟩ := addr k q h
    exact hD.2 k (q.1, e) h1
/-- a method's link -/
def sx_lkV (own : String) (index : Nat) (y : MethodName) (bytes : ByteArray) (mL : Nat) (ret : Option FieldType) (np ci : Nat) : Prop := (Cond.methodLink own index y ∈ sx_gw ∨ ∃ host, Cond.methodLinkNest own index y host ∈ lw_tbl) ∧ Cond.instanceMethod y ∈ sx_gw ∧ Cond.selects y.cls y y ∈ sx_gw ∧ Cond.initialized y.cls ∈ sx_gw ∧ Cond.code y bytes mL ret ∈ sx_gw ∧ (y.cls ≠ "java/lang/invoke/MethodHandle" ∧ y.cls ≠ "java/lang/invoke/VarHandle") ∧ (parseMethodDescriptor y.desc).map (fun d => d.parameters.length) = some np ∧ ∃ q : vw_C, vwCl[ci]? = some q ∧ q.1 = y.cls
def sx_lkS (own : String) (index : Nat) (y : MethodName) (bytes : ByteArray) (mL : Nat) (ret : Option FieldType) (np : Nat) : Prop := (Cond.methodLink own index y ∈ sx_gw ∨ ∃ host, Cond.methodLinkNest own index y host ∈ lw_tbl) ∧ Cond.static y ∈ sx_gw ∧ Cond.initialized y.cls ∈ sx_gw ∧ Cond.code y bytes mL ret ∈ sx_gw ∧ (y.cls ≠ "java/lang/invoke/MethodHandle" ∧ y.cls ≠ "java/lang/invoke/VarHandle") ∧ (parseMethodDescriptor y.desc).map (fun d => d.parameters.length) = some np
theorem sx_np {y : MethodName} {np : Nat} (h : (parseMethodDescriptor y.desc).map (fun d => d.parameters.length) = some np) : ∀ sig, parseMethodDescriptor y.desc = some sig → np = sig.parameters.length := fun sig hs => by
  rw [hs] at h
  exact (Option.some.inj h).symm
theorem sx_good : ∀ w ∈ sx_gw, ((w.onTables && w.keeps) = true ∨ ∃ ty, w = .arrayClass ty) := fun w hw => good_of_word (List.mem_filter.mp hw).2
theorem sx_warm {args : Array Value} {s : State} {y : MethodName} {bytes : ByteArray} {mL : Nat} {ret : Option FieldType} (hts : ∀ w ∈ sx_gw, w.before args s = true) (hc : Cond.code y bytes mL ret ∈ sx_gw) : ∀ w ∈ Cond.code y bytes mL ret :: sx_gw, ∀ (a' : Array Value) (U : State), s.WarmedH U.vm → w.before a' U = true := by
  intro w hw a' U hW
  have h1 : w ∈ sx_gw := by
    rcases List.mem_cons.mp hw with h | h
    · rw [h]; exact hc
    · exact h
  exact word_at hW (sx_good w h1) (hts w h1)
section SXC
variable {d : sx_D} {κ : sx_C} {cc : ByteArray} {nL k n pc pc' : Nat} {own : String} {rm : Room} {lv : List (Option Value)} {st0 st : List Value} {ws : va_W}
theorem sx_runV {p : Program} {l : Launch} {e : Env} {R : Room} {s : State} {m : MethodId} {args : Array Value} {below : List Frame} {meth : Method} {c : Code} {A : Nat → Prop} {Q : State → Prop} (X : sx_X d ((p, l, e, R, s, m, args, below, meth, c), A, Q) cc nL own rm) {index : Nat} {y : MethodName} {bytes : ByteArray} {mL : Nat} {ret : Option FieldType} {np ci h : Nat} {b : Nat} {As : List Value} {wc : va_W} {fs : List Value} {Qc : Array Value → State → Outcome → State → Prop} {free : Addr → Prop} {H : Heap} {locs : List Loc} {ls : Array Slot} (lk : sx_lkV own index y bytes mL ret np ci) (hd : decode cc pc = .ok (.invokevirtual index, 3)) (hnp : As.length = np) (hsum : (st.map fun v => v.category).sum ≤ 8) (hrm : h + 1 ≤ rm.frames ∧ 8 + (mL + 11) + 40 * h ≤ rm.locals ∧ k ≤ rm.cells ∧ n ≤ rm.slots) (hb0 : wc[0]? = some (b, .inr (ci, fs))) (hM : Met l y (.code y bytes mL ret :: sx_gw) (sx_rm h) (va_Pc (.ref b :: As) (sx_B d wc H.size)) Qc 0 0 free) (hP : va_P d.1 vwCl wc H) (hD : va_D (fun _ => True) wc) (hl : lv_has ls nL (sx_al 0 lv)) :
    va_Run p l e R s m args below meth c H locs k n 0 0 (F0 m pc ls (As.reverse ++ .ref b :: st)) st (Qc (Value.ref b :: As).toArray) free := by
  obtain ⟨hx, hb, hml, hown, hts, hKK, hA, hR⟩ := X
  subst hR
  obtain ⟨hln, hin, hse, hini, hco, hy, hpn, q, hq, hqc⟩ := lk
  have hpre : PreV s H y.cls b (va_Pc (.ref b :: As) (sx_B d wc H.size)) As := ⟨sx_B_blind, by
    obtain ⟨cell, g1, g2, g3⟩ := va_recv hKK.1 hP hq hb0
    exact ⟨cell, g1, g2, by rw [← hqc]; exact g3⟩, fun U hU hW => ⟨rfl, by rw [hU], by rw [hU]; exact hP, hKK.warm hW, hD⟩⟩
  rcases hln with hln | ⟨host, hln⟩
  · exact va_runV (C := y.cls) (Ts := sx_gw) ⟨hx, hb, hml, hown, hts⟩ hM ⟨⟨rfl, rfl, hrm.1, hrm.2.1, sx_warm hts hco, List.mem_cons_self, hts _ hco, hts _ hini, hy, sx_np hpn, hts _ hln⟩, hts _ hin, hts _ hse⟩ hpre rfl hnp hl.1 rfl (lv_room hsum) hd ⟨hrm.2.2.1, hrm.2.2.2⟩
  · exact va_runVN (C := y.cls) (host := host) (Ts := sx_gw) ⟨hx, hb, hml, hown, hts⟩ hM ⟨⟨⟨rfl, rfl, hrm.1, hrm.2.1, sx_warm hts hco, List.mem_cons_self⟩, hts _ hco, hts _ hini, hy, sx_np hpn, va_Nw.use rfl (hKK.2 _ hln rfl)⟩, hts _ hin, hts _ hse⟩ hpre rfl hnp hl.1 rfl (lv_room hsum) hd ⟨hrm.2.2.1, hrm.2.2.2⟩
theorem sx_runS {p : Program} {l : Launch} {e : Env} {R : Room} {s : State} {m : MethodId} {args : Array Value} {below : List Frame} {meth : Method} {c : Code} {A : Nat → Prop} {Q : State → Prop} (X : sx_X d ((p, l, e, R, s, m, args, below, meth, c), A, Q) cc nL own rm) {index : Nat} {y : MethodName} {bytes : ByteArray} {mL : Nat} {ret : Option FieldType} {np h : Nat} {As : List Value} {wc : va_W} {Qc : Array Value → State → Outcome → State → Prop} {free : Addr → Prop} {H : Heap} {locs : List Loc} {ls : Array Slot} (lk : sx_lkS own index y bytes mL ret np) (hd : decode cc pc = .ok (.invokestatic index, 3)) (hnp : As.length = np) (hsum : (st.map fun v => v.category).sum ≤ 8) (hrm : h + 1 ≤ rm.frames ∧ 8 + (mL + 11) + 40 * h ≤ rm.locals ∧ k ≤ rm.cells ∧ n ≤ rm.slots) (hM : Met l y (.code y bytes mL ret :: sx_gw) (sx_rm h) (va_Pc As (sx_B d wc H.size)) Qc 0 0 free) (hP : va_P d.1 vwCl wc H) (hD : va_D (fun _ => True) wc) (hl : lv_has ls nL (sx_al 0 lv)) :
    va_Run p l e R s m args below meth c H locs k n 0 0 (F0 m pc ls (As.reverse ++ st)) st (Qc As.toArray) free := by
  obtain ⟨hx, hb, hml, hown, hts, hKK, hA, hR⟩ := X
  subst hR
  obtain ⟨hln, hin, hini, hco, hy, hpn⟩ := lk
  have hpre : PreS s H (va_Pc As (sx_B d wc H.size)) As := ⟨sx_B_blind, fun U hU hW => ⟨rfl, by rw [hU], by rw [hU]; exact hP, hKK.warm hW, hD⟩⟩
  rcases hln with hln | ⟨host, hln⟩
  · exact va_runS (Ts := sx_gw) ⟨hx, hb, hml, hown, hts⟩ hM ⟨⟨rfl, rfl, hrm.1, hrm.2.1, sx_warm hts hco, List.mem_cons_self, hts _ hco, hts _ hini, hy, sx_np hpn, hts _ hln⟩, hts _ hin⟩ hpre rfl hnp hl.1 rfl (lv_room hsum) hd ⟨hrm.2.2.1, hrm.2.2.2⟩
  · exact va_runSN (host := host) (Ts := sx_gw) ⟨hx, hb, hml, hown, hts⟩ hM ⟨⟨⟨rfl, rfl, hrm.1, hrm.2.1, sx_warm hts hco, List.mem_cons_self⟩, hts _ hco, hts _ hini, hy, sx_np hpn, va_Nw.use rfl (hKK.2 _ hln rfl)⟩, hts _ hin, trivial⟩ hpre rfl hnp hl.1 rfl (lv_room hsum) hd ⟨hrm.2.2.1, hrm.2.2.2⟩
theorem g_callVi (X : sx_X d κ cc nL own rm) {index : Nat} {y : MethodName} {bytes : ByteArray} {mL : Nat} {ret : FieldType} {np h : Nat} {b ci : Nat} {fs : List Value} {As : List Value} {ρ σ : Type} {o : Option ρ} {F : ρ → Option σ} {x : σ} {wc : va_W} {w1 w2 : ρ → va_W} {rv : ρ → Int32} (lk : sx_lkV own index y bytes mL (some ret) np ci) (hd : decode cc pc = .ok (.invokevirtual index, 3)) (hp : pc + 3 = pc') (hst : st0 = As.reverse ++ .ref b :: st) (hnp : As.length = np) (hsum : (st.map fun v => v.category).sum ≤ 8) (hrm : h + 1 ≤ rm.frames ∧ 8 + (mL + 11) + 40 * h ≤ rm.locals ∧ k ≤ rm.cells ∧ n ≤ rm.slots) (hb0 : wc[0]? = some (b, .inr (ci, fs))) (isC : List Nat) (hnd : va_nd isC = true) (hC : isC.map (fun i => ws[i]?) = wc.map some) (hf : o.bind F = some x) (ct : ∀ (l : Launch) (y0 : ρ), o = some y0 → sx_I l d y bytes mL ret h (.ref b :: As) wc (w1 y0) (rv y0)) (hm : ∀ y0, (w1 y0).map Prod.fst = wc.map Prod.fst) (hw : ∀ y0, sx_put ws isC (w1 y0) = w2 y0) (K : ∀ y0, narrow ret (.int (rv y0)) = .int (rv y0) → F y0 = some x → sx_G d κ nL k n pc' lv (.int (rv y0) :: st) (w2 y0)) : sx_G d κ nL k n pc lv st0 ws := by
  obtain ⟨y0, h1, h2⟩ := sx_bd hf
  obtain ⟨⟨p, l, e, R, s, m, args, below, meth, c⟩, A, Q⟩ := κ
  have hc := ct l y0 h1
  subst hp
  subst hst
  intro H locs ls hP hD hS hl
  have hPc : va_P d.1 vwCl wc H := hP.sub isC (by
    have h9 := congrArg (fun x : List (Option (Nat × va_E)) => x.filterMap id) hC
    simpa [List.filterMap_map, Function.comp_def] using h9)
  have hDc : va_D A wc := hD.sub isC hnd hC
  have hFc := va_free (wc := wc) hD hS X.2.2.2.2.2.2.1 isC hC
  refine va_calli (sx_runV X lk hd hnp hsum hrm hb0 (hc H.size) hPc (hDc.weaken (fun _ _ _ _ => trivial)) hl) hS (fun q _ h => hFc q h) hFc (fun r u t H1 locs ht hvm hw0 hB hz1 hk1 hS => ?_)
  obtain ⟨rfl, hn⟩ := hw0
  rw [ht] at hB
  obtain ⟨hP2, hD2⟩ := sx_put_P hP hD isC hC (hm y0) hk1 hB
  rw [hw] at hP2 hD2
  exact K y0 hn h2 H1 locs ls hP2 hD2 hS hl
theorem g_callVi0 (X : sx_X d κ cc nL own rm) {index : Nat} {y : MethodName} {bytes : ByteArray} {mL : Nat} {ret : FieldType} {np h : Nat} {b ci : Nat} {fs : List Value} {As : List Value}  {σ : Type} {o : Option (Int32)} {F : Int32 → Option σ} {x : σ} {wc : va_W} {w1 w2 : Int32 → va_W} (lk : sx_lkV own index y bytes mL (some ret) np ci) (hd : decode cc pc = .ok (.invokevirtual index, 3)) (hp : pc + 3 = pc') (hst : st0 = As.reverse ++ .ref b :: st) (hnp : As.length = np) (hsum : (st.map fun v => v.category).sum ≤ 8) (hrm : h + 1 ≤ rm.frames ∧ 8 + (mL + 11) + 40 * h ≤ rm.locals ∧ k ≤ rm.cells ∧ n ≤ rm.slots) (hb0 : wc[0]? = some (b, .inr (ci, fs))) (isC : List Nat) (hnd : va_nd isC = true) (hC : isC.map (fun i => ws[i]?) = wc.map some) (hf : o.bind F = some x) (ct : ∀ (l : Launch) (r : Int32), o = some r → sx_I l d y bytes mL ret h (.ref b :: As) wc (w1 r) r) (hm : ∀ (r : Int32), (w1 r).map Prod.fst = wc.map Prod.fst) (hw : ∀ (r : Int32), sx_put ws isC (w1 r) = w2 r) (K : ∀ (r : Int32), narrow ret (.int r) = .int r → F r = some x → sx_G d κ nL k n pc' lv (.int r :: st) (w2 r)) : sx_G d κ nL k n pc lv st0 ws := g_callVi (ρ := Int32) (w1 := fun z => w1 z) (w2 := fun z => w2 z) (rv := fun z => z) X lk hd hp hst hnp hsum hrm hb0 isC hnd hC hf (fun l z h0 => ct l z h0) (fun z => hm z) (fun z => hw z) (fun z => K z)
theorem g_callVi1 (X : sx_X d κ cc nL own rm) {index : Nat} {y : MethodName} {bytes : ByteArray} {mL : Nat} {ret : FieldType} {np h : Nat} {b ci : Nat} {fs : List Value} {As : List Value} {α1 : Type} {σ : Type} {o : Option (Int32 × α1)} {F : Int32 × α1 → Option σ} {x : σ} {wc : va_W} {w1 w2 : Int32 → α1 → va_W} (lk : sx_lkV own index y bytes mL (some ret) np ci) (hd : decode cc pc = .ok (.invokevirtual index, 3)) (hp : pc + 3 = pc') (hst : st0 = As.reverse ++ .ref b :: st) (hnp : As.length = np) (hsum : (st.map fun v => v.category).sum ≤ 8) (hrm : h + 1 ≤ rm.frames ∧ 8 + (mL + 11) + 40 * h ≤ rm.locals ∧ k ≤ rm.cells ∧ n ≤ rm.slots) (hb0 : wc[0]? = some (b, .inr (ci, fs))) (isC : List Nat) (hnd : va_nd isC = true) (hC : isC.map (fun i => ws[i]?) = wc.map some) (hf : o.bind F = some x) (ct : ∀ (l : Launch) (r : Int32) (a1 : α1), o = some (r, a1) → sx_I l d y bytes mL ret h (.ref b :: As) wc (w1 r a1) r) (hm : ∀ (r : Int32) (a1 : α1), (w1 r a1).map Prod.fst = wc.map Prod.fst) (hw : ∀ (r : Int32) (a1 : α1), sx_put ws isC (w1 r a1) = w2 r a1) (K : ∀ (r : Int32) (a1 : α1), narrow ret (.int r) = .int r → F (r, a1) = some x → sx_G d κ nL k n pc' lv (.int r :: st) (w2 r a1)) : sx_G d κ nL k n pc lv st0 ws := g_callVi (ρ := Int32 × α1) (w1 := fun z => w1 z.1 z.2) (w2 := fun z => w2 z.1 z.2) (rv := fun z => z.1) X lk hd hp hst hnp hsum hrm hb0 isC hnd hC hf (fun l z h0 => ct l z.1 z.2 h0) (fun z => hm z.1 z.2) (fun z => hw z.1 z.2) (fun z => K z.1 z.2)
theorem g_callVi2 (X : sx_X d κ cc nL own rm) {index : Nat} {y : MethodName} {bytes : ByteArray} {mL : Nat} {ret : FieldType} {np h : Nat} {b ci : Nat} {fs : List Value} {As : List Value} {α1 : Type} {α2 : Type} {σ : Type} {o : Option (Int32 × α1 × α2)} {F : Int32 × α1 × α2 → Option σ} {x : σ} {wc : va_W} {w1 w2 : Int32 → α1 → α2 → va_W} (lk : sx_lkV own index y bytes mL (some ret) np ci) (hd : decode cc pc = .ok (.invokevirtual index, 3)) (hp : pc + 3 = pc') (hst : st0 = As.reverse ++ .ref b :: st) (hnp : As.length = np) (hsum : (st.map fun v => v.category).sum ≤ 8) (hrm : h + 1 ≤ rm.frames ∧ 8 + (mL + 11) + 40 * h ≤ rm.locals ∧ k ≤ rm.cells ∧ n ≤ rm.slots) (hb0 : wc[0]? = some (b, .inr (ci, fs))) (isC : List Nat) (hnd : va_nd isC = true) (hC : isC.map (fun i => ws[i]?) = wc.map some) (hf : o.bind F = some x) (ct : ∀ (l : Launch) (r : Int32) (a1 : α1) (a2 : α2), o = some (r, a1, a2) → sx_I l d y bytes mL ret h (.ref b :: As) wc (w1 r a1 a2) r) (hm : ∀ (r : Int32) (a1 : α1) (a2 : α2), (w1 r a1 a2).map Prod.fst = wc.map Prod.fst) (hw : ∀ (r : Int32) (a1 : α1) (a2 : α2), sx_put ws isC (w1 r a1 a2) = w2 r a1 a2) (K : ∀ (r : Int32) (a1 : α1) (a2 : α2), narrow ret (.int r) = .int r → F (r, a1, a2) = some x → sx_G d κ nL k n pc' lv (.int r :: st) (w2 r a1 a2)) : sx_G d κ nL k n pc lv st0 ws := g_callVi (ρ := Int32 × α1 × α2) (w1 := fun z => w1 z.1 z.2.1 z.2.2) (w2 := fun z => w2 z.1 z.2.1 z.2.2) (rv := fun z => z.1) X lk hd hp hst hnp hsum hrm hb0 isC hnd hC hf (fun l z h0 => ct l z.1 z.2.1 z.2.2 h0) (fun z => hm z.1 z.2.1 z.2.2) (fun z => hw z.1 z.2.1 z.2.2) (fun z => K z.1 z.2.1 z.2.2)
theorem g_callVi3 (X : sx_X d κ cc nL own rm) {index : Nat} {y : MethodName} {bytes : ByteArray} {mL : Nat} {ret : FieldType} {np h : Nat} {b ci : Nat} {fs : List Value} {As : List Value} {α1 : Type} {α2 : Type} {α3 : Type} {σ : Type} {o : Option (Int32 × α1 × α2 × α3)} {F : Int32 × α1 × α2 × α3 → Option σ} {x : σ} {wc : va_W} {w1 w2 : Int32 → α1 → α2 → α3 → va_W} (lk : sx_lkV own index y bytes mL (some ret) np ci) (hd : decode cc pc = .ok (.invokevirtual index, 3)) (hp : pc + 3 = pc') (hst : st0 = As.reverse ++ .ref b :: st) (hnp : As.length = np) (hsum : (st.map fun v => v.category).sum ≤ 8) (hrm : h + 1 ≤ rm.frames ∧ 8 + (mL + 11) + 40 * h ≤ rm.locals ∧ k ≤ rm.cells ∧ n ≤ rm.slots) (hb0 : wc[0]? = some (b, .inr (ci, fs))) (isC : List Nat) (hnd : va_nd isC = true) (hC : isC.map (fun i => ws[i]?) = wc.map some) (hf : o.bind F = some x) (ct : ∀ (l : Launch) (r : Int32) (a1 : α1) (a2 : α2) (a3 : α3), o = some (r, a1, a2, a3) → sx_I l d y bytes mL ret h (.ref b :: As) wc (w1 r a1 a2 a3) r) (hm : ∀ (r : Int32) (a1 : α1) (a2 : α2) (a3 : α3), (w1 r a1 a2 a3).map Prod.fst = wc.map Prod.fst) (hw : ∀ (r : Int32) (a1 : α1) (a2 : α2) (a3 : α3), sx_put ws isC (w1 r a1 a2 a3) = w2 r a1 a2 a3) (K : ∀ (r : Int32) (a1 : α1) (a2 : α2) (a3 : α3), narrow ret (.int r) = .int r → F (r, a1, a2, a3) = some x → sx_G d κ nL k n pc' lv (.int r :: st) (w2 r a1 a2 a3)) : sx_G d κ nL k n pc lv st0 ws := g_callVi (ρ := Int32 × α1 × α2 × α3) (w1 := fun z => w1 z.1 z.2.1 z.2.2.1 z.2.2.2) (w2 := fun z => w2 z.1 z.2.1 z.2.2.1 z.2.2.2) (rv := fun z => z.1) X lk hd hp hst hnp hsum hrm hb0 isC hnd hC hf (fun l z h0 => ct l z.1 z.2.1 z.2.2.1 z.2.2.2 h0) (fun z => hm z.1 z.2.1 z.2.2.1 z.2.2.2) (fun z => hw z.1 z.2.1 z.2.2.1 z.2.2.2) (fun z => K z.1 z.2.1 z.2.2.1 z.2.2.2)
theorem g_callVi4 (X : sx_X d κ cc nL own rm) {index : Nat} {y : MethodName} {bytes : ByteArray} {mL : Nat} {ret : FieldType} {np h : Nat} {b ci : Nat} {fs : List Value} {As : List Value} {α1 : Type} {α2 : Type} {α3 : Type} {α4 : Type} {σ : Type} {o : Option (Int32 × α1 × α2 × α3 × α4)} {F : Int32 × α1 × α2 × α3 × α4 → Option σ} {x : σ} {wc : va_W} {w1 w2 : Int32 → α1 → α2 → α3 → α4 → va_W} (lk : sx_lkV own index y bytes mL (some ret) np ci) (hd : decode cc pc = .ok (.invokevirtual index, 3)) (hp : pc + 3 = pc') (hst : st0 = As.reverse ++ .ref b :: st) (hnp : As.length = np) (hsum : (st.map fun v => v.category).sum ≤ 8) (hrm : h + 1 ≤ rm.frames ∧ 8 + (mL + 11) + 40 * h ≤ rm.locals ∧ k ≤ rm.cells ∧ n ≤ rm.slots) (hb0 : wc[0]? = some (b, .inr (ci, fs))) (isC : List Nat) (hnd : va_nd isC = true) (hC : isC.map (fun i => ws[i]?) = wc.map some) (hf : o.bind F = some x) (ct : ∀ (l : Launch) (r : Int32) (a1 : α1) (a2 : α2) (a3 : α3) (a4 : α4), o = some (r, a1, a2, a3, a4) → sx_I l d y bytes mL ret h (.ref b :: As) wc (w1 r a1 a2 a3 a4) r) (hm : ∀ (r : Int32) (a1 : α1) (a2 : α2) (a3 : α3) (a4 : α4), (w1 r a1 a2 a3 a4).map Prod.fst = wc.map Prod.fst) (hw : ∀ (r : Int32) (a1 : α1) (a2 : α2) (a3 : α3) (a4 : α4), sx_put ws isC (w1 r a1 a2 a3 a4) = w2 r a1 a2 a3 a4) (K : ∀ (r : Int32) (a1 : α1) (a2 : α2) (a3 : α3) (a4 : α4), narrow ret (.int r) = .int r → F (r, a1, a2, a3, a4) = some x → sx_G d κ nL k n pc' lv (.int r :: st) (w2 r a1 a2 a3 a4)) : sx_G d κ nL k n pc lv st0 ws := g_callVi (ρ := Int32 × α1 × α2 × α3 × α4) (w1 := fun z => w1 z.1 z.2.1 z.2.2.1 z.2.2.2.1 z.2.2.2.2) (w2 := fun z => w2 z.1 z.2.1 z.2.2.1 z.2.2.2.1 z.2.2.2.2) (rv := fun z => z.1) X lk hd hp hst hnp hsum hrm hb0 isC hnd hC hf (fun l z h0 => ct l z.1 z.2.1 z.2.2.1 z.2.2.2.1 z.2.2.2.2 h0) (fun z => hm z.1 z.2.1 z.2.2.1 z.2.2.2.1 z.2.2.2.2) (fun z => hw z.1 z.2.1 z.2.2.1 z.2.2.2.1 z.2.2.2.2) (fun z => K z.1 z.2.1 z.2.2.1 z.2.2.2.1 z.2.2.2.2)
theorem g_callVi5 (X : sx_X d κ cc nL own rm) {index : Nat} {y : MethodName} {bytes : ByteArray} {mL : Nat} {ret : FieldType} {np h : Nat} {b ci : Nat} {fs : List Value} {As : List Value} {α1 : Type} {α2 : Type} {α3 : Type} {α4 : Type} {α5 : Type} {σ : Type} {o : Option (Int32 × α1 × α2 × α3 × α4 × α5)} {F : Int32 × α1 × α2 × α3 × α4 × α5 → Option σ} {x : σ} {wc : va_W} {w1 w2 : Int32 → α1 → α2 → α3 → α4 → α5 → va_W} (lk : sx_lkV own index y bytes mL (some ret) np ci) (hd : decode cc pc = .ok (.invokevirtual index, 3)) (hp : pc + 3 = pc') (hst : st0 = As.reverse ++ .ref b :: st) (hnp : As.length = np) (hsum : (st.map fun v => v.category).sum ≤ 8) (hrm : h + 1 ≤ rm.frames ∧ 8 + (mL + 11) + 40 * h ≤ rm.locals ∧ k ≤ rm.cells ∧ n ≤ rm.slots) (hb0 : wc[0]? = some (b, .inr (ci, fs))) (isC : List Nat) (hnd : va_nd isC = true) (hC : isC.map (fun i => ws[i]?) = wc.map some) (hf : o.bind F = some x) (ct : ∀ (l : Launch) (r : Int32) (a1 : α1) (a2 : α2) (a3 : α3) (a4 : α4) (a5 : α5), o = some (r, a1, a2, a3, a4, a5) → sx_I l d y bytes mL ret h (.ref b :: As) wc (w1 r a1 a2 a3 a4 a5) r) (hm : ∀ (r : Int32) (a1 : α1) (a2 : α2) (a3 : α3) (a4 : α4) (a5 : α5), (w1 r a1 a2 a3 a4 a5).map Prod.fst = wc.map Prod.fst) (hw : ∀ (r : Int32) (a1 : α1) (a2 : α2) (a3 : α3) (a4 : α4) (a5 : α5), sx_put ws isC (w1 r a1 a2 a3 a4 a5) = w2 r a1 a2 a3 a4 a5) (K : ∀ (r : Int32) (a1 : α1) (a2 : α2) (a3 : α3) (a4 : α4) (a5 : α5), narrow ret (.int r) = .int r → F (r, a1, a2, a3, a4, a5) = some x → sx_G d κ nL k n pc' lv (.int r :: st) (w2 r a1 a2 a3 a4 a5)) : sx_G d κ nL k n pc lv st0 ws := g_callVi (ρ := Int32 × α1 × α2 × α3 × α4 × α5) (w1 := fun z => w1 z.1 z.2.1 z.2.2.1 z.2.2.2.1 z.2.2.2.2.1 z.2.2.2.2.2) (w2 := fun z => w2 z.1 z.2.1 z.2.2.1 z.2.2.2.1 z.2.2.2.2.1 z.2.2.2.2.2) (rv := fun z => z.1) X lk hd hp hst hnp hsum hrm hb0 isC hnd hC hf (fun l z h0 => ct l z.1 z.2.1 z.2.2.1 z.2.2.2.1 z.2.2.2.2.1 z.2.2.2.2.2 h0) (fun z => hm z.1 z.2.1 z.2.2.1 z.2.2.2.1 z.2.2.2.2.1 z.2.2.2.2.2) (fun z => hw z.1 z.2.1 z.2.2.1 z.2.2.2.1 z.2.2.2.2.1 z.2.2.2.2.2) (fun z => K z.1 z.2.1 z.2.2.1 z.2.2.2.1 z.2.2.2.2.1 z.2.2.2.2.2)
theorem g_callVi6 (X : sx_X d κ cc nL own rm) {index : Nat} {y : MethodName} {bytes : ByteArray} {mL : Nat} {ret : FieldType} {np h : Nat} {b ci : Nat} {fs : List Value} {As : List Value} {α1 : Type} {α2 : Type} {α3 : Type} {α4 : Type} {α5 : Type} {α6 : Type} {σ : Type} {o : Option (Int32 × α1 × α2 × α3 × α4 × α5 × α6)} {F : Int32 × α1 × α2 × α3 × α4 × α5 × α6 → Option σ} {x : σ} {wc : va_W} {w1 w2 : Int32 → α1 → α2 → α3 → α4 → α5 → α6 → va_W} (lk : sx_lkV own index y bytes mL (some ret) np ci) (hd : decode cc pc = .ok (.invokevirtual index, 3)) (hp : pc + 3 = pc') (hst : st0 = As.reverse ++ .ref b :: st) (hnp : As.length = np) (hsum : (st.map fun v => v.category).sum ≤ 8) (hrm : h + 1 ≤ rm.frames ∧ 8 + (mL + 11) + 40 * h ≤ rm.locals ∧ k ≤ rm.cells ∧ n ≤ rm.slots) (hb0 : wc[0]? = some (b, .inr (ci, fs))) (isC : List Nat) (hnd : va_nd isC = true) (hC : isC.map (fun i => ws[i]?) = wc.map some) (hf : o.bind F = some x) (ct : ∀ (l : Launch) (r : Int32) (a1 : α1) (a2 : α2) (a3 : α3) (a4 : α4) (a5 : α5) (a6 : α6), o = some (r, a1, a2, a3, a4, a5, a6) → sx_I l d y bytes mL ret h (.ref b :: As) wc (w1 r a1 a2 a3 a4 a5 a6) r) (hm : ∀ (r : Int32) (a1 : α1) (a2 : α2) (a3 : α3) (a4 : α4) (a5 : α5) (a6 : α6), (w1 r a1 a2 a3 a4 a5 a6).map Prod.fst = wc.map Prod.fst) (hw : ∀ (r : Int32) (a1 : α1) (a2 : α2) (a3 : α3) (a4 : α4) (a5 : α5) (a6 : α6), sx_put ws isC (w1 r a1 a2 a3 a4 a5 a6) = w2 r a1 a2 a3 a4 a5 a6) (K : ∀ (r : Int32) (a1 : α1) (a2 : α2) (a3 : α3) (a4 : α4) (a5 : α5) (a6 : α6), narrow ret (.int r) = .int r → F (r, a1, a2, a3, a4, a5, a6) = some x → sx_G d κ nL k n pc' lv (.int r :: st) (w2 r a1 a2 a3 a4 a5 a6)) : sx_G d κ nL k n pc lv st0 ws := g_callVi (ρ := Int32 × α1 × α2 × α3 × α4 × α5 × α6) (w1 := fun z => w1 z.1 z.2.1 z.2.2.1 z.2.2.2.1 z.2.2.2.2.1 z.2.2.2.2.2.1 z.2.2.2.2.2.2) (w2 := fun z => w2 z.1 z.2.1 z.2.2.1 z.2.2.2.1 z.2.2.2.2.1 z.2.2.2.2.2.1 z.2.2.2.2.2.2) (rv := fun z => z.1) X lk hd hp hst hnp hsum hrm hb0 isC hnd hC hf (fun l z h0 => ct l z.1 z.2.1 z.2.2.1 z.2.2.2.1 z.2.2.2.2.1 z.2.2.2.2.2.1 z.2.2.2.2.2.2 h0) (fun z => hm z.1 z.2.1 z.2.2.1 z.2.2.2.1 z.2.2.2.2.1 z.2.2.2.2.2.1 z.2.2.2.2.2.2) (fun z => hw z.1 z.2.1 z.2.2.1 z.2.2.2.1 z.2.2.2.2.1 z.2.2.2.2.2.1 z.2.2.2.2.2.2) (fun z => K z.1 z.2.1 z.2.2.1 z.2.2.2.1 z.2.2.2.2.1 z.2.2.2.2.2.1 z.2.2.2.2.2.2)
theorem g_callVi7 (X : sx_X d κ cc nL own rm) {index : Nat} {y : MethodName} {bytes : ByteArray} {mL : Nat} {ret : FieldType} {np h : Nat} {b ci : Nat} {fs : List Value} {As : List Value} {α1 : Type} {α2 : Type} {α3 : Type} {α4 : Type} {α5 : Type} {α6 : Type} {α7 : Type} {σ : Type} {o : Option (Int32 × α1 × α2 × α3 × α4 × α5 × α6 × α7)} {F : Int32 × α1 × α2 × α3 × α4 × α5 × α6 × α7 → Option σ} {x : σ} {wc : va_W} {w1 w2 : Int32 → α1 → α2 → α3 → α4 → α5 → α6 → α7 → va_W} (lk : sx_lkV own index y bytes mL (some ret) np ci) (hd : decode cc pc = .ok (.invokevirtual index, 3)) (hp : pc + 3 = pc') (hst : st0 = As.reverse ++ .ref b :: st) (hnp : As.length = np) (hsum : (st.map fun v => v.category).sum ≤ 8) (hrm : h + 1 ≤ rm.frames ∧ 8 + (mL + 11) + 40 * h ≤ rm.locals ∧ k ≤ rm.cells ∧ n ≤ rm.slots) (hb0 : wc[0]? = some (b, .inr (ci, fs))) (isC : List Nat) (hnd : va_nd isC = true) (hC : isC.map (fun i => ws[i]?) = wc.map some) (hf : o.bind F = some x) (ct : ∀ (l : Launch) (r : Int32) (a1 : α1) (a2 : α2) (a3 : α3) (a4 : α4) (a5 : α5) (a6 : α6) (a7 : α7), o = some (r, a1, a2, a3, a4, a5, a6, a7) → sx_I l d y bytes mL ret h (.ref b :: As) wc (w1 r a1 a2 a3 a4 a5 a6 a7) r) (hm : ∀ (r : Int32) (a1 : α1) (a2 : α2) (a3 : α3) (a4 : α4) (a5 : α5) (a6 : α6) (a7 : α7), (w1 r a1 a2 a3 a4 a5 a6 a7).map Prod.fst = wc.map Prod.fst) (hw : ∀ (r : Int32) (a1 : α1) (a2 : α2) (a3 : α3) (a4 : α4) (a5 : α5) (a6 : α6) (a7 : α7), sx_put ws isC (w1 r a1 a2 a3 a4 a5 a6 a7) = w2 r a1 a2 a3 a4 a5 a6 a7) (K : ∀ (r : Int32) (a1 : α1) (a2 : α2) (a3 : α3) (a4 : α4) (a5 : α5) (a6 : α6) (a7 : α7), narrow ret (.int r) = .int r → F (r, a1, a2, a3, a4, a5, a6, a7) = some x → sx_G d κ nL k n pc' lv (.int r :: st) (w2 r a1 a2 a3 a4 a5 a6 a7)) : sx_G d κ nL k n pc lv st0 ws := g_callVi (ρ := Int32 × α1 × α2 × α3 × α4 × α5 × α6 × α7) (w1 := fun z => w1 z.1 z.2.1 z.2.2.1 z.2.2.2.1 z.2.2.2.2.1 z.2.2.2.2.2.1 z.2.2.2.2.2.2.1 z.2.2.2.2.2.2.2) (w2 := fun z => w2 z.1 z.2.1 z.2.2.1 z.2.2.2.1 z.2.2.2.2.1 z.2.2.2.2.2.1 z.2.2.2.2.2.2.1 z.2.2.2.2.2.2.2) (rv := fun z => z.1) X lk hd hp hst hnp hsum hrm hb0 isC hnd hC hf (fun l z h0 => ct l z.1 z.2.1 z.2.2.1 z.2.2.2.1 z.2.2.2.2.1 z.2.2.2.2.2.1 z.2.2.2.2.2.2.1 z.2.2.2.2.2.2.2 h0) (fun z => hm z.1 z.2.1 z.2.2.1 z.2.2.2.1 z.2.2.2.2.1 z.2.2.2.2.2.1 z.2.2.2.2.2.2.1 z.2.2.2.2.2.2.2) (fun z => hw z.1 z.2.1 z.2.2.1 z.2.2.2.1 z.2.2.2.2.1 z.2.2.2.2.2.1 z.2.2.2.2.2.2.1 z.2.2.2.2.2.2.2) (fun z => K z.1 z.2.1 z.2.2.1 z.2.2.2.1 z.2.2.2.2.1 z.2.2.2.2.2.1 z.2.2.2.2.2.2.1 z.2.2.2.2.2.2.2)
theorem g_callVi8 (X : sx_X d κ cc nL own rm) {index : Nat} {y : MethodName} {bytes : ByteArray} {mL : Nat} {ret : FieldType} {np h : Nat} {b ci : Nat} {fs : List Value} {As : List Value} {α1 : Type} {α2 : Type} {α3 : Type} {α4 : Type} {α5 : Type} {α6 : Type} {α7 : Type} {α8 : Type} {σ : Type} {o : Option (Int32 × α1 × α2 × α3 × α4 × α5 × α6 × α7 × α8)} {F : Int32 × α1 × α2 × α3 × α4 × α5 × α6 × α7 × α8 → Option σ} {x : σ} {wc : va_W} {w1 w2 : Int32 → α1 → α2 → α3 → α4 → α5 → α6 → α7 → α8 → va_W} (lk : sx_lkV own index y bytes mL (some ret) np ci) (hd : decode cc pc = .ok (.invokevirtual index, 3)) (hp : pc + 3 = pc') (hst : st0 = As.reverse ++ .ref b :: st) (hnp : As.length = np) (hsum : (st.map fun v => v.category).sum ≤ 8) (hrm : h + 1 ≤ rm.frames ∧ 8 + (mL + 11) + 40 * h ≤ rm.locals ∧ k ≤ rm.cells ∧ n ≤ rm.slots) (hb0 : wc[0]? = some (b, .inr (ci, fs))) (isC : List Nat) (hnd : va_nd isC = true) (hC : isC.map (fun i => ws[i]?) = wc.map some) (hf : o.bind F = some x) (ct : ∀ (l : Launch) (r : Int32) (a1 : α1) (a2 : α2) (a3 : α3) (a4 : α4) (a5 : α5) (a6 : α6) (a7 : α7) (a8 : α8), o = some (r, a1, a2, a3, a4, a5, a6, a7, a8) → sx_I l d y bytes mL ret h (.ref b :: As) wc (w1 r a1 a2 a3 a4 a5 a6 a7 a8) r) (hm : ∀ (r : Int32) (a1 : α1) (a2 : α2) (a3 : α3) (a4 : α4) (a5 : α5) (a6 : α6) (a7 : α7) (a8 : α8), (w1 r a1 a2 a3 a4 a5 a6 a7 a8).map Prod.fst = wc.map Prod.fst) (hw : ∀ (r : Int32) (a1 : α1) (a2 : α2) (a3 : α3) (a4 : α4) (a5 : α5) (a6 : α6) (a7 : α7) (a8 : α8), sx_put ws isC (w1 r a1 a2 a3 a4 a5 a6 a7 a8) = w2 r a1 a2 a3 a4 a5 a6 a7 a8) (K : ∀ (r : Int32) (a1 : α1) (a2 : α2) (a3 : α3) (a4 : α4) (a5 : α5) (a6 : α6) (a7 : α7) (a8 : α8), narrow ret (.int r) = .int r → F (r, a1, a2, a3, a4, a5, a6, a7, a8) = some x → sx_G d κ nL k n pc' lv (.int r :: st) (w2 r a1 a2 a3 a4 a5 a6 a7 a8)) : sx_G d κ nL k n pc lv st0 ws := g_callVi (ρ := Int32 × α1 × α2 × α3 × α4 × α5 × α6 × α7 × α8) (w1 := fun z => w1 z.1 z.2.1 z.2.2.1 z.2.2.2.1 z.2.2.2.2.1 z.2.2.2.2.2.1 z.2.2.2.2.2.2.1 z.2.2.2.2.2.2.2.1 z.2.2.2.2.2.2.2.2) (w2 := fun z => w2 z.1 z.2.1 z.2.2.1 z.2.2.2.1 z.2.2.2.2.1 z.2.2.2.2.2.1 z.2.2.2.2.2.2.1 z.2.2.2.2.2.2.2.1 z.2.2.2.2.2.2.2.2) (rv := fun z => z.1) X lk hd hp hst hnp hsum hrm hb0 isC hnd hC hf (fun l z h0 => ct l z.1 z.2.1 z.2.2.1 z.2.2.2.1 z.2.2.2.2.1 z.2.2.2.2.2.1 z.2.2.2.2.2.2.1 z.2.2.2.2.2.2.2.1 z.2.2.2.2.2.2.2.2 h0) (fun z => hm z.1 z.2.1 z.2.2.1 z.2.2.2.1 z.2.2.2.2.1 z.2.2.2.2.2.1 z.2.2.2.2.2.2.1 z.2.2.2.2.2.2.2.1 z.2.2.2.2.2.2.2.2) (fun z => hw z.1 z.2.1 z.2.2.1 z.2.2.2.1 z.2.2.2.2.1 z.2.2.2.2.2.1 z.2.2.2.2.2.2.1 z.2.2.2.2.2.2.2.1 z.2.2.2.2.2.2.2.2) (fun z => K z.1 z.2.1 z.2.2.1 z.2.2.2.1 z.2.2.2.2.1 z.2.2.2.2.2.1 z.2.2.2.2.2.2.1 z.2.2.2.2.2.2.2.1 z.2.2.2.2.2.2.2.2)
theorem g_callVv (X : sx_X d κ cc nL own rm) {index : Nat} {y : MethodName} {bytes : ByteArray} {mL : Nat} {np h : Nat} {b ci : Nat} {fs : List Value} {As : List Value} {ρ σ : Type} {o : Option ρ} {F : ρ → Option σ} {x : σ} {wc : va_W} {w1 w2 : ρ → va_W} (lk : sx_lkV own index y bytes mL none np ci) (hd : decode cc pc = .ok (.invokevirtual index, 3)) (hp : pc + 3 = pc') (hst : st0 = As.reverse ++ .ref b :: st) (hnp : As.length = np) (hsum : (st.map fun v => v.category).sum ≤ 8) (hrm : h + 1 ≤ rm.frames ∧ 8 + (mL + 11) + 40 * h ≤ rm.locals ∧ k ≤ rm.cells ∧ n ≤ rm.slots) (hb0 : wc[0]? = some (b, .inr (ci, fs))) (isC : List Nat) (hnd : va_nd isC = true) (hC : isC.map (fun i => ws[i]?) = wc.map some) (hf : o.bind F = some x) (ct : ∀ (l : Launch) (y0 : ρ), o = some y0 → sx_V l d y bytes mL h (.ref b :: As) wc (w1 y0)) (hm : ∀ y0, (w1 y0).map Prod.fst = wc.map Prod.fst) (hw : ∀ y0, sx_put ws isC (w1 y0) = w2 y0) (K : ∀ y0, F y0 = some x → sx_G d κ nL k n pc' lv (st) (w2 y0)) : sx_G d κ nL k n pc lv st0 ws := by
  obtain ⟨y0, h1, h2⟩ := sx_bd hf
  obtain ⟨⟨p, l, e, R, s, m, args, below, meth, c⟩, A, Q⟩ := κ
  have hc := ct l y0 h1
  subst hp
  subst hst
  intro H locs ls hP hD hS hl
  have hPc : va_P d.1 vwCl wc H := hP.sub isC (by
    have h9 := congrArg (fun x : List (Option (Nat × va_E)) => x.filterMap id) hC
    simpa [List.filterMap_map, Function.comp_def] using h9)
  have hDc : va_D A wc := hD.sub isC hnd hC
  have hFc := va_free (wc := wc) hD hS X.2.2.2.2.2.2.1 isC hC
  refine va_callv (sx_runV X lk hd hnp hsum hrm hb0 (hc H.size) hPc (hDc.weaken (fun _ _ _ _ => trivial)) hl) hS (fun q _ h => hFc q h) hFc (fun u t H1 locs ht hvm hw0 hB hz1 hk1 hS => ?_)
  clear hw0
  rw [ht] at hB
  obtain ⟨hP2, hD2⟩ := sx_put_P hP hD isC hC (hm y0) hk1 hB
  rw [hw] at hP2 hD2
  exact K y0 h2 H1 locs ls hP2 hD2 hS hl
theorem g_callVv0 (X : sx_X d κ cc nL own rm) {index : Nat} {y : MethodName} {bytes : ByteArray} {mL : Nat} {np h : Nat} {b ci : Nat} {fs : List Value} {As : List Value}  {σ : Type} {o : Option (Unit)} {F : Unit → Option σ} {x : σ} {wc : va_W} {w1 w2 : Unit → va_W} (lk : sx_lkV own index y bytes mL none np ci) (hd : decode cc pc = .ok (.invokevirtual index, 3)) (hp : pc + 3 = pc') (hst : st0 = As.reverse ++ .ref b :: st) (hnp : As.length = np) (hsum : (st.map fun v => v.category).sum ≤ 8) (hrm : h + 1 ≤ rm.frames ∧ 8 + (mL + 11) + 40 * h ≤ rm.locals ∧ k ≤ rm.cells ∧ n ≤ rm.slots) (hb0 : wc[0]? = some (b, .inr (ci, fs))) (isC : List Nat) (hnd : va_nd isC = true) (hC : isC.map (fun i => ws[i]?) = wc.map some) (hf : o.bind F = some x) (ct : ∀ (l : Launch) (u : Unit), o = some u → sx_V l d y bytes mL h (.ref b :: As) wc (w1 u)) (hm : ∀ (u : Unit), (w1 u).map Prod.fst = wc.map Prod.fst) (hw : ∀ (u : Unit), sx_put ws isC (w1 u) = w2 u) (K : ∀ (u : Unit), F u = some x → sx_G d κ nL k n pc' lv (st) (w2 u)) : sx_G d κ nL k n pc lv st0 ws := g_callVv (ρ := Unit) (w1 := fun z => w1 z) (w2 := fun z => w2 z) X lk hd hp hst hnp hsum hrm hb0 isC hnd hC hf (fun l z h0 => ct l z h0) (fun z => hm z) (fun z => hw z) (fun z => K z)
theorem g_callVv1 (X : sx_X d κ cc nL own rm) {index : Nat} {y : MethodName} {bytes : ByteArray} {mL : Nat} {np h : Nat} {b ci : Nat} {fs : List Value} {As : List Value} {α1 : Type} {σ : Type} {o : Option (α1)} {F : α1 → Option σ} {x : σ} {wc : va_W} {w1 w2 : α1 → va_W} (lk : sx_lkV own index y bytes mL none np ci) (hd : decode cc pc = .ok (.invokevirtual index, 3)) (hp : pc + 3 = pc') (hst : st0 = As.reverse ++ .ref b :: st) (hnp : As.length = np) (hsum : (st.map fun v => v.category).sum ≤ 8) (hrm : h + 1 ≤ rm.frames ∧ 8 + (mL + 11) + 40 * h ≤ rm.locals ∧ k ≤ rm.cells ∧ n ≤ rm.slots) (hb0 : wc[0]? = some (b, .inr (ci, fs))) (isC : List Nat) (hnd : va_nd isC = true) (hC : isC.map (fun i => ws[i]?) = wc.map some) (hf : o.bind F = some x) (ct : ∀ (l : Launch) (a1 : α1), o = some a1 → sx_V l d y bytes mL h (.ref b :: As) wc (w1 a1)) (hm : ∀ (a1 : α1), (w1 a1).map Prod.fst = wc.map Prod.fst) (hw : ∀ (a1 : α1), sx_put ws isC (w1 a1) = w2 a1) (K : ∀ (a1 : α1), F a1 = some x → sx_G d κ nL k n pc' lv (st) (w2 a1)) : sx_G d κ nL k n pc lv st0 ws := g_callVv (ρ := α1) (w1 := fun z => w1 z) (w2 := fun z => w2 z) X lk hd hp hst hnp hsum hrm hb0 isC hnd hC hf (fun l z h0 => ct l z h0) (fun z => hm z) (fun z => hw z) (fun z => K z)
theorem g_callVv2 (X : sx_X d κ cc nL own rm) {index : Nat} {y : MethodName} {bytes : ByteArray} {mL : Nat} {np h : Nat} {b ci : Nat} {fs : List Value} {As : List Value} {α1 : Type} {α2 : Type} {σ : Type} {o : Option (α1 × α2)} {F : α1 × α2 → Option σ} {x : σ} {wc : va_W} {w1 w2 : α1 → α2 → va_W} (lk : sx_lkV own index y bytes mL none np ci) (hd : decode cc pc = .ok (.invokevirtual index, 3)) (hp : pc + 3 = pc') (hst : st0 = As.reverse ++ .ref b :: st) (hnp : As.length = np) (hsum : (st.map fun v => v.category).sum ≤ 8) (hrm : h + 1 ≤ rm.frames ∧ 8 + (mL + 11) + 40 * h ≤ rm.locals ∧ k ≤ rm.cells ∧ n ≤ rm.slots) (hb0 : wc[0]? = some (b, .inr (ci, fs))) (isC : List Nat) (hnd : va_nd isC = true) (hC : isC.map (fun i => ws[i]?) = wc.map some) (hf : o.bind F = some x) (ct : ∀ (l : Launch) (a1 : α1) (a2 : α2), o = some (a1, a2) → sx_V l d y bytes mL h (.ref b :: As) wc (w1 a1 a2)) (hm : ∀ (a1 : α1) (a2 : α2), (w1 a1 a2).map Prod.fst = wc.map Prod.fst) (hw : ∀ (a1 : α1) (a2 : α2), sx_put ws isC (w1 a1 a2) = w2 a1 a2) (K : ∀ (a1 : α1) (a2 : α2), F (a1, a2) = some x → sx_G d κ nL k n pc' lv (st) (w2 a1 a2)) : sx_G d κ nL k n pc lv st0 ws := g_callVv (ρ := α1 × α2) (w1 := fun z => w1 z.1 z.2) (w2 := fun z => w2 z.1 z.2) X lk hd hp hst hnp hsum hrm hb0 isC hnd hC hf (fun l z h0 => ct l z.1 z.2 h0) (fun z => hm z.1 z.2) (fun z => hw z.1 z.2) (fun z => K z.1 z.2)
theorem g_callVv3 (X : sx_X d κ cc nL own rm) {index : Nat} {y : MethodName} {bytes : ByteArray} {mL : Nat} {np h : Nat} {b ci : Nat} {fs : List Value} {As : List Value} {α1 : Type} {α2 : Type} {α3 : Type} {σ : Type} {o : Option (α1 × α2 × α3)} {F : α1 × α2 × α3 → Option σ} {x : σ} {wc : va_W} {w1 w2 : α1 → α2 → α3 → va_W} (lk : sx_lkV own index y bytes mL none np ci) (hd : decode cc pc = .ok (.invokevirtual index, 3)) (hp : pc + 3 = pc') (hst : st0 = As.reverse ++ .ref b :: st) (hnp : As.length = np) (hsum : (st.map fun v => v.category).sum ≤ 8) (hrm : h + 1 ≤ rm.frames ∧ 8 + (mL + 11) + 40 * h ≤ rm.locals ∧ k ≤ rm.cells ∧ n ≤ rm.slots) (hb0 : wc[0]? = some (b, .inr (ci, fs))) (isC : List Nat) (hnd : va_nd isC = true) (hC : isC.map (fun i => ws[i]?) = wc.map some) (hf : o.bind F = some x) (ct : ∀ (l : Launch) (a1 : α1) (a2 : α2) (a3 : α3), o = some (a1, a2, a3) → sx_V l d y bytes mL h (.ref b :: As) wc (w1 a1 a2 a3)) (hm : ∀ (a1 : α1) (a2 : α2) (a3 : α3), (w1 a1 a2 a3).map Prod.fst = wc.map Prod.fst) (hw : ∀ (a1 : α1) (a2 : α2) (a3 : α3), sx_put ws isC (w1 a1 a2 a3) = w2 a1 a2 a3) (K : ∀ (a1 : α1) (a2 : α2) (a3 : α3), F (a1, a2, a3) = some x → sx_G d κ nL k n pc' lv (st) (w2 a1 a2 a3)) : sx_G d κ nL k n pc lv st0 ws := g_callVv (ρ := α1 × α2 × α3) (w1 := fun z => w1 z.1 z.2.1 z.2.2) (w2 := fun z => w2 z.1 z.2.1 z.2.2) X lk hd hp hst hnp hsum hrm hb0 isC hnd hC hf (fun l z h0 => ct l z.1 z.2.1 z.2.2 h0) (fun z => hm z.1 z.2.1 z.2.2) (fun z => hw z.1 z.2.1 z.2.2) (fun z => K z.1 z.2.1 z.2.2)
theorem g_callVv4 (X : sx_X d κ cc nL own rm) {index : Nat} {y : MethodName} {bytes : ByteArray} {mL : Nat} {np h : Nat} {b ci : Nat} {fs : List Value} {As : List Value} {α1 : Type} {α2 : Type} {α3 : Type} {α4 : Type} {σ : Type} {o : Option (α1 × α2 × α3 × α4)} {F : α1 × α2 × α3 × α4 → Option σ} {x : σ} {wc : va_W} {w1 w2 : α1 → α2 → α3 → α4 → va_W} (lk : sx_lkV own index y bytes mL none np ci) (hd : decode cc pc = .ok (.invokevirtual index, 3)) (hp : pc + 3 = pc') (hst : st0 = As.reverse ++ .ref b :: st) (hnp : As.length = np) (hsum : (st.map fun v => v.category).sum ≤ 8) (hrm : h + 1 ≤ rm.frames ∧ 8 + (mL + 11) + 40 * h ≤ rm.locals ∧ k ≤ rm.cells ∧ n ≤ rm.slots) (hb0 : wc[0]? = some (b, .inr (ci, fs))) (isC : List Nat) (hnd : va_nd isC = true) (hC : isC.map (fun i => ws[i]?) = wc.map some) (hf : o.bind F = some x) (ct : ∀ (l : Launch) (a1 : α1) (a2 : α2) (a3 : α3) (a4 : α4), o = some (a1, a2, a3, a4) → sx_V l d y bytes mL h (.ref b :: As) wc (w1 a1 a2 a3 a4)) (hm : ∀ (a1 : α1) (a2 : α2) (a3 : α3) (a4 : α4), (w1 a1 a2 a3 a4).map Prod.fst = wc.map Prod.fst) (hw : ∀ (a1 : α1) (a2 : α2) (a3 : α3) (a4 : α4), sx_put ws isC (w1 a1 a2 a3 a4) = w2 a1 a2 a3 a4) (K : ∀ (a1 : α1) (a2 : α2) (a3 : α3) (a4 : α4), F (a1, a2, a3, a4) = some x → sx_G d κ nL k n pc' lv (st) (w2 a1 a2 a3 a4)) : sx_G d κ nL k n pc lv st0 ws := g_callVv (ρ := α1 × α2 × α3 × α4) (w1 := fun z => w1 z.1 z.2.1 z.2.2.1 z.2.2.2) (w2 := fun z => w2 z.1 z.2.1 z.2.2.1 z.2.2.2) X lk hd hp hst hnp hsum hrm hb0 isC hnd hC hf (fun l z h0 => ct l z.1 z.2.1 z.2.2.1 z.2.2.2 h0) (fun z => hm z.1 z.2.1 z.2.2.1 z.2.2.2) (fun z => hw z.1 z.2.1 z.2.2.1 z.2.2.2) (fun z => K z.1 z.2.1 z.2.2.1 z.2.2.2)
theorem g_callVv5 (X : sx_X d κ cc nL own rm) {index : Nat} {y : MethodName} {bytes : ByteArray} {mL : Nat} {np h : Nat} {b ci : Nat} {fs : List Value} {As : List Value} {α1 : Type} {α2 : Type} {α3 : Type} {α4 : Type} {α5 : Type} {σ : Type} {o : Option (α1 × α2 × α3 × α4 × α5)} {F : α1 × α2 × α3 × α4 × α5 → Option σ} {x : σ} {wc : va_W} {w1 w2 : α1 → α2 → α3 → α4 → α5 → va_W} (lk : sx_lkV own index y bytes mL none np ci) (hd : decode cc pc = .ok (.invokevirtual index, 3)) (hp : pc + 3 = pc') (hst : st0 = As.reverse ++ .ref b :: st) (hnp : As.length = np) (hsum : (st.map fun v => v.category).sum ≤ 8) (hrm : h + 1 ≤ rm.frames ∧ 8 + (mL + 11) + 40 * h ≤ rm.locals ∧ k ≤ rm.cells ∧ n ≤ rm.slots) (hb0 : wc[0]? = some (b, .inr (ci, fs))) (isC : List Nat) (hnd : va_nd isC = true) (hC : isC.map (fun i => ws[i]?) = wc.map some) (hf : o.bind F = some x) (ct : ∀ (l : Launch) (a1 : α1) (a2 : α2) (a3 : α3) (a4 : α4) (a5 : α5), o = some (a1, a2, a3, a4, a5) → sx_V l d y bytes mL h (.ref b :: As) wc (w1 a1 a2 a3 a4 a5)) (hm : ∀ (a1 : α1) (a2 : α2) (a3 : α3) (a4 : α4) (a5 : α5), (w1 a1 a2 a3 a4 a5).map Prod.fst = wc.map Prod.fst) (hw : ∀ (a1 : α1) (a2 : α2) (a3 : α3) (a4 : α4) (a5 : α5), sx_put ws isC (w1 a1 a2 a3 a4 a5) = w2 a1 a2 a3 a4 a5) (K : ∀ (a1 : α1) (a2 : α2) (a3 : α3) (a4 : α4) (a5 : α5), F (a1, a2, a3, a4, a5) = some x → sx_G d κ nL k n pc' lv (st) (w2 a1 a2 a3 a4 a5)) : sx_G d κ nL k n pc lv st0 ws := g_callVv (ρ := α1 × α2 × α3 × α4 × α5) (w1 := fun z => w1 z.1 z.2.1 z.2.2.1 z.2.2.2.1 z.2.2.2.2) (w2 := fun z => w2 z.1 z.2.1 z.2.2.1 z.2.2.2.1 z.2.2.2.2) X lk hd hp hst hnp hsum hrm hb0 isC hnd hC hf (fun l z h0 => ct l z.1 z.2.1 z.2.2.1 z.2.2.2.1 z.2.2.2.2 h0) (fun z => hm z.1 z.2.1 z.2.2.1 z.2.2.2.1 z.2.2.2.2) (fun z => hw z.1 z.2.1 z.2.2.1 z.2.2.2.1 z.2.2.2.2) (fun z => K z.1 z.2.1 z.2.2.1 z.2.2.2.1 z.2.2.2.2)
theorem g_callVv6 (X : sx_X d κ cc nL own rm) {index : Nat} {y : MethodName} {bytes : ByteArray} {mL : Nat} {np h : Nat} {b ci : Nat} {fs : List Value} {As : List Value} {α1 : Type} {α2 : Type} {α3 : Type} {α4 : Type} {α5 : Type} {α6 : Type} {σ : Type} {o : Option (α1 × α2 × α3 × α4 × α5 × α6)} {F : α1 × α2 × α3 × α4 × α5 × α6 → Option σ} {x : σ} {wc : va_W} {w1 w2 : α1 → α2 → α3 → α4 → α5 → α6 → va_W} (lk : sx_lkV own index y bytes mL none np ci) (hd : decode cc pc = .ok (.invokevirtual index, 3)) (hp : pc + 3 = pc') (hst : st0 = As.reverse ++ .ref b :: st) (hnp : As.length = np) (hsum : (st.map fun v => v.category).sum ≤ 8) (hrm : h + 1 ≤ rm.frames ∧ 8 + (mL + 11) + 40 * h ≤ rm.locals ∧ k ≤ rm.cells ∧ n ≤ rm.slots) (hb0 : wc[0]? = some (b, .inr (ci, fs))) (isC : List Nat) (hnd : va_nd isC = true) (hC : isC.map (fun i => ws[i]?) = wc.map some) (hf : o.bind F = some x) (ct : ∀ (l : Launch) (a1 : α1) (a2 : α2) (a3 : α3) (a4 : α4) (a5 : α5) (a6 : α6), o = some (a1, a2, a3, a4, a5, a6) → sx_V l d y bytes mL h (.ref b :: As) wc (w1 a1 a2 a3 a4 a5 a6)) (hm : ∀ (a1 : α1) (a2 : α2) (a3 : α3) (a4 : α4) (a5 : α5) (a6 : α6), (w1 a1 a2 a3 a4 a5 a6).map Prod.fst = wc.map Prod.fst) (hw : ∀ (a1 : α1) (a2 : α2) (a3 : α3) (a4 : α4) (a5 : α5) (a6 : α6), sx_put ws isC (w1 a1 a2 a3 a4 a5 a6) = w2 a1 a2 a3 a4 a5 a6) (K : ∀ (a1 : α1) (a2 : α2) (a3 : α3) (a4 : α4) (a5 : α5) (a6 : α6), F (a1, a2, a3, a4, a5, a6) = some x → sx_G d κ nL k n pc' lv (st) (w2 a1 a2 a3 a4 a5 a6)) : sx_G d κ nL k n pc lv st0 ws := g_callVv (ρ := α1 × α2 × α3 × α4 × α5 × α6) (w1 := fun z => w1 z.1 z.2.1 z.2.2.1 z.2.2.2.1 z.2.2.2.2.1 z.2.2.2.2.2) (w2 := fun z => w2 z.1 z.2.1 z.2.2.1 z.2.2.2.1 z.2.2.2.2.1 z.2.2.2.2.2) X lk hd hp hst hnp hsum hrm hb0 isC hnd hC hf (fun l z h0 => ct l z.1 z.2.1 z.2.2.1 z.2.2.2.1 z.2.2.2.2.1 z.2.2.2.2.2 h0) (fun z => hm z.1 z.2.1 z.2.2.1 z.2.2.2.1 z.2.2.2.2.1 z.2.2.2.2.2) (fun z => hw z.1 z.2.1 z.2.2.1 z.2.2.2.1 z.2.2.2.2.1 z.2.2.2.2.2) (fun z => K z.1 z.2.1 z.2.2.1 z.2.2.2.1 z.2.2.2.2.1 z.2.2.2.2.2)
theorem g_callVv7 (X : sx_X d κ cc nL own rm) {index : Nat} {y : MethodName} {bytes : ByteArray} {mL : Nat} {np h : Nat} {b ci : Nat} {fs : List Value} {As : List Value} {α1 : Type} {α2 : Type} {α3 : Type} {α4 : Type} {α5 : Type} {α6 : Type} {α7 : Type} {σ : Type} {o : Option (α1 × α2 × α3 × α4 × α5 × α6 × α7)} {F : α1 × α2 × α3 × α4 × α5 × α6 × α7 → Option σ} {x : σ} {wc : va_W} {w1 w2 : α1 → α2 → α3 → α4 → α5 → α6 → α7 → va_W} (lk : sx_lkV own index y bytes mL none np ci) (hd : decode cc pc = .ok (.invokevirtual index, 3)) (hp : pc + 3 = pc') (hst : st0 = As.reverse ++ .ref b :: st) (hnp : As.length = np) (hsum : (st.map fun v => v.category).sum ≤ 8) (hrm : h + 1 ≤ rm.frames ∧ 8 + (mL + 11) + 40 * h ≤ rm.locals ∧ k ≤ rm.cells ∧ n ≤ rm.slots) (hb0 : wc[0]? = some (b, .inr (ci, fs))) (isC : List Nat) (hnd : va_nd isC = true) (hC : isC.map (fun i => ws[i]?) = wc.map some) (hf : o.bind F = some x) (ct : ∀ (l : Launch) (a1 : α1) (a2 : α2) (a3 : α3) (a4 : α4) (a5 : α5) (a6 : α6) (a7 : α7), o = some (a1, a2, a3, a4, a5, a6, a7) → sx_V l d y bytes mL h (.ref b :: As) wc (w1 a1 a2 a3 a4 a5 a6 a7)) (hm : ∀ (a1 : α1) (a2 : α2) (a3 : α3) (a4 : α4) (a5 : α5) (a6 : α6) (a7 : α7), (w1 a1 a2 a3 a4 a5 a6 a7).map Prod.fst = wc.map Prod.fst) (hw : ∀ (a1 : α1) (a2 : α2) (a3 : α3) (a4 : α4) (a5 : α5) (a6 : α6) (a7 : α7), sx_put ws isC (w1 a1 a2 a3 a4 a5 a6 a7) = w2 a1 a2 a3 a4 a5 a6 a7) (K : ∀ (a1 : α1) (a2 : α2) (a3 : α3) (a4 : α4) (a5 : α5) (a6 : α6) (a7 : α7), F (a1, a2, a3, a4, a5, a6, a7) = some x → sx_G d κ nL k n pc' lv (st) (w2 a1 a2 a3 a4 a5 a6 a7)) : sx_G d κ nL k n pc lv st0 ws := g_callVv (ρ := α1 × α2 × α3 × α4 × α5 × α6 × α7) (w1 := fun z => w1 z.1 z.2.1 z.2.2.1 z.2.2.2.1 z.2.2.2.2.1 z.2.2.2.2.2.1 z.2.2.2.2.2.2) (w2 := fun z => w2 z.1 z.2.1 z.2.2.1 z.2.2.2.1 z.2.2.2.2.1 z.2.2.2.2.2.1 z.2.2.2.2.2.2) X lk hd hp hst hnp hsum hrm hb0 isC hnd hC hf (fun l z h0 => ct l z.1 z.2.1 z.2.2.1 z.2.2.2.1 z.2.2.2.2.1 z.2.2.2.2.2.1 z.2.2.2.2.2.2 h0) (fun z => hm z.1 z.2.1 z.2.2.1 z.2.2.2.1 z.2.2.2.2.1 z.2.2.2.2.2.1 z.2.2.2.2.2.2) (fun z => hw z.1 z.2.1 z.2.2.1 z.2.2.2.1 z.2.2.2.2.1 z.2.2.2.2.2.1 z.2.2.2.2.2.2) (fun z => K z.1 z.2.1 z.2.2.1 z.2.2.2.1 z.2.2.2.2.1 z.2.2.2.2.2.1 z.2.2.2.2.2.2)
theorem g_callVv8 (X : sx_X d κ cc nL own rm) {index : Nat} {y : MethodName} {bytes : ByteArray} {mL : Nat} {np h : Nat} {b ci : Nat} {fs : List Value} {As : List Value} {α1 : Type} {α2 : Type} {α3 : Type} {α4 : Type} {α5 : Type} {α6 : Type} {α7 : Type} {α8 : Type} {σ : Type} {o : Option (α1 × α2 × α3 × α4 × α5 × α6 × α7 × α8)} {F : α1 × α2 × α3 × α4 × α5 × α6 × α7 × α8 → Option σ} {x : σ} {wc : va_W} {w1 w2 : α1 → α2 → α3 → α4 → α5 → α6 → α7 → α8 → va_W} (lk : sx_lkV own index y bytes mL none np ci) (hd : decode cc pc = .ok (.invokevirtual index, 3)) (hp : pc + 3 = pc') (hst : st0 = As.reverse ++ .ref b :: st) (hnp : As.length = np) (hsum : (st.map fun v => v.category).sum ≤ 8) (hrm : h + 1 ≤ rm.frames ∧ 8 + (mL + 11) + 40 * h ≤ rm.locals ∧ k ≤ rm.cells ∧ n ≤ rm.slots) (hb0 : wc[0]? = some (b, .inr (ci, fs))) (isC : List Nat) (hnd : va_nd isC = true) (hC : isC.map (fun i => ws[i]?) = wc.map some) (hf : o.bind F = some x) (ct : ∀ (l : Launch) (a1 : α1) (a2 : α2) (a3 : α3) (a4 : α4) (a5 : α5) (a6 : α6) (a7 : α7) (a8 : α8), o = some (a1, a2, a3, a4, a5, a6, a7, a8) → sx_V l d y bytes mL h (.ref b :: As) wc (w1 a1 a2 a3 a4 a5 a6 a7 a8)) (hm : ∀ (a1 : α1) (a2 : α2) (a3 : α3) (a4 : α4) (a5 : α5) (a6 : α6) (a7 : α7) (a8 : α8), (w1 a1 a2 a3 a4 a5 a6 a7 a8).map Prod.fst = wc.map Prod.fst) (hw : ∀ (a1 : α1) (a2 : α2) (a3 : α3) (a4 : α4) (a5 : α5) (a6 : α6) (a7 : α7) (a8 : α8), sx_put ws isC (w1 a1 a2 a3 a4 a5 a6 a7 a8) = w2 a1 a2 a3 a4 a5 a6 a7 a8) (K : ∀ (a1 : α1) (a2 : α2) (a3 : α3) (a4 : α4) (a5 : α5) (a6 : α6) (a7 : α7) (a8 : α8), F (a1, a2, a3, a4, a5, a6, a7, a8) = some x → sx_G d κ nL k n pc' lv (st) (w2 a1 a2 a3 a4 a5 a6 a7 a8)) : sx_G d κ nL k n pc lv st0 ws := g_callVv (ρ := α1 × α2 × α3 × α4 × α5 × α6 × α7 × α8) (w1 := fun z => w1 z.1 z.2.1 z.2.2.1 z.2.2.2.1 z.2.2.2.2.1 z.2.2.2.2.2.1 z.2.2.2.2.2.2.1 z.2.2.2.2.2.2.2) (w2 := fun z => w2 z.1 z.2.1 z.2.2.1 z.2.2.2.1 z.2.2.2.2.1 z.2.2.2.2.2.1 z.2.2.2.2.2.2.1 z.2.2.2.2.2.2.2) X lk hd hp hst hnp hsum hrm hb0 isC hnd hC hf (fun l z h0 => ct l z.1 z.2.1 z.2.2.1 z.2.2.2.1 z.2.2.2.2.1 z.2.2.2.2.2.1 z.2.2.2.2.2.2.1 z.2.2.2.2.2.2.2 h0) (fun z => hm z.1 z.2.1 z.2.2.1 z.2.2.2.1 z.2.2.2.2.1 z.2.2.2.2.2.1 z.2.2.2.2.2.2.1 z.2.2.2.2.2.2.2) (fun z => hw z.1 z.2.1 z.2.2.1 z.2.2.2.1 z.2.2.2.2.1 z.2.2.2.2.2.1 z.2.2.2.2.2.2.1 z.2.2.2.2.2.2.2) (fun z => K z.1 z.2.1 z.2.2.1 z.2.2.2.1 z.2.2.2.2.1 z.2.2.2.2.2.1 z.2.2.2.2.2.2.1 z.2.2.2.2.2.2.2)
theorem g_callVl (X : sx_X d κ cc nL own rm) {index : Nat} {y : MethodName} {bytes : ByteArray} {mL : Nat} {np h : Nat} {b ci : Nat} {fs : List Value} {As : List Value} {ρ σ : Type} {o : Option ρ} {F : ρ → Option σ} {x : σ} {wc : va_W} {w1 w2 : ρ → va_W} {rv : ρ → Int64} (lk : sx_lkV own index y bytes mL (some .long) np ci) (hd : decode cc pc = .ok (.invokevirtual index, 3)) (hp : pc + 3 = pc') (hst : st0 = As.reverse ++ .ref b :: st) (hnp : As.length = np) (hsum : (st.map fun v => v.category).sum ≤ 8) (hrm : h + 1 ≤ rm.frames ∧ 8 + (mL + 11) + 40 * h ≤ rm.locals ∧ k ≤ rm.cells ∧ n ≤ rm.slots) (hb0 : wc[0]? = some (b, .inr (ci, fs))) (isC : List Nat) (hnd : va_nd isC = true) (hC : isC.map (fun i => ws[i]?) = wc.map some) (hf : o.bind F = some x) (ct : ∀ (l : Launch) (y0 : ρ), o = some y0 → sx_L l d y bytes mL h (.ref b :: As) wc (w1 y0) (rv y0)) (hm : ∀ y0, (w1 y0).map Prod.fst = wc.map Prod.fst) (hw : ∀ y0, sx_put ws isC (w1 y0) = w2 y0) (K : ∀ y0, F y0 = some x → sx_G d κ nL k n pc' lv (.long (rv y0) :: st) (w2 y0)) : sx_G d κ nL k n pc lv st0 ws := by
  obtain ⟨y0, h1, h2⟩ := sx_bd hf
  obtain ⟨⟨p, l, e, R, s, m, args, below, meth, c⟩, A, Q⟩ := κ
  have hc := ct l y0 h1
  subst hp
  subst hst
  intro H locs ls hP hD hS hl
  have hPc : va_P d.1 vwCl wc H := hP.sub isC (by
    have h9 := congrArg (fun x : List (Option (Nat × va_E)) => x.filterMap id) hC
    simpa [List.filterMap_map, Function.comp_def] using h9)
  have hDc : va_D A wc := hD.sub isC hnd hC
  have hFc := va_free (wc := wc) hD hS X.2.2.2.2.2.2.1 isC hC
  refine va_calll (sx_runV X lk hd hnp hsum hrm hb0 (hc H.size) hPc (hDc.weaken (fun _ _ _ _ => trivial)) hl) hS (fun q _ h => hFc q h) hFc (fun r u t H1 locs ht hvm hw0 hB hz1 hk1 hS => ?_)
  subst hw0
  rw [ht] at hB
  obtain ⟨hP2, hD2⟩ := sx_put_P hP hD isC hC (hm y0) hk1 hB
  rw [hw] at hP2 hD2
  exact K y0 h2 H1 locs ls hP2 hD2 hS hl
theorem g_callVl0 (X : sx_X d κ cc nL own rm) {index : Nat} {y : MethodName} {bytes : ByteArray} {mL : Nat} {np h : Nat} {b ci : Nat} {fs : List Value} {As : List Value}  {σ : Type} {o : Option (Int64)} {F : Int64 → Option σ} {x : σ} {wc : va_W} {w1 w2 : Int64 → va_W} (lk : sx_lkV own index y bytes mL (some .long) np ci) (hd : decode cc pc = .ok (.invokevirtual index, 3)) (hp : pc + 3 = pc') (hst : st0 = As.reverse ++ .ref b :: st) (hnp : As.length = np) (hsum : (st.map fun v => v.category).sum ≤ 8) (hrm : h + 1 ≤ rm.frames ∧ 8 + (mL + 11) + 40 * h ≤ rm.locals ∧ k ≤ rm.cells ∧ n ≤ rm.slots) (hb0 : wc[0]? = some (b, .inr (ci, fs))) (isC : List Nat) (hnd : va_nd isC = true) (hC : isC.map (fun i => ws[i]?) = wc.map some) (hf : o.bind F = some x) (ct : ∀ (l : Launch) (r : Int64), o = some r → sx_L l d y bytes mL h (.ref b :: As) wc (w1 r) r) (hm : ∀ (r : Int64), (w1 r).map Prod.fst = wc.map Prod.fst) (hw : ∀ (r : Int64), sx_put ws isC (w1 r) = w2 r) (K : ∀ (r : Int64), F r = some x → sx_G d κ nL k n pc' lv (.long r :: st) (w2 r)) : sx_G d κ nL k n pc lv st0 ws := g_callVl (ρ := Int64) (w1 := fun z => w1 z) (w2 := fun z => w2 z) (rv := fun z => z) X lk hd hp hst hnp hsum hrm hb0 isC hnd hC hf (fun l z h0 => ct l z h0) (fun z => hm z) (fun z => hw z) (fun z => K z)
theorem g_callVl1 (X : sx_X d κ cc nL own rm) {index : Nat} {y : MethodName} {bytes : ByteArray} {mL : Nat} {np h : Nat} {b ci : Nat} {fs : List Value} {As : List Value} {α1 : Type} {σ : Type} {o : Option (Int64 × α1)} {F : Int64 × α1 → Option σ} {x : σ} {wc : va_W} {w1 w2 : Int64 → α1 → va_W} (lk : sx_lkV own index y bytes mL (some .long) np ci) (hd : decode cc pc = .ok (.invokevirtual index, 3)) (hp : pc + 3 = pc') (hst : st0 = As.reverse ++ .ref b :: st) (hnp : As.length = np) (hsum : (st.map fun v => v.category).sum ≤ 8) (hrm : h + 1 ≤ rm.frames ∧ 8 + (mL + 11) + 40 * h ≤ rm.locals ∧ k ≤ rm.cells ∧ n ≤ rm.slots) (hb0 : wc[0]? = some (b, .inr (ci, fs))) (isC : List Nat) (hnd : va_nd isC = true) (hC : isC.map (fun i => ws[i]?) = wc.map some) (hf : o.bind F = some x) (ct : ∀ (l : Launch) (r : Int64) (a1 : α1), o = some (r, a1) → sx_L l d y bytes mL h (.ref b :: As) wc (w1 r a1) r) (hm : ∀ (r : Int64) (a1 : α1), (w1 r a1).map Prod.fst = wc.map Prod.fst) (hw : ∀ (r : Int64) (a1 : α1), sx_put ws isC (w1 r a1) = w2 r a1) (K : ∀ (r : Int64) (a1 : α1), F (r, a1) = some x → sx_G d κ nL k n pc' lv (.long r :: st) (w2 r a1)) : sx_G d κ nL k n pc lv st0 ws := g_callVl (ρ := Int64 × α1) (w1 := fun z => w1 z.1 z.2) (w2 := fun z => w2 z.1 z.2) (rv := fun z => z.1) X lk hd hp hst hnp hsum hrm hb0 isC hnd hC hf (fun l z h0 => ct l z.1 z.2 h0) (fun z => hm z.1 z.2) (fun z => hw z.1 z.2) (fun z => K z.1 z.2)
theorem g_callVl2 (X : sx_X d κ cc nL own rm) {index : Nat} {y : MethodName} {bytes : ByteArray} {mL : Nat} {np h : Nat} {b ci : Nat} {fs : List Value} {As : List Value} {α1 : Type} {α2 : Type} {σ : Type} {o : Option (Int64 × α1 × α2)} {F : Int64 × α1 × α2 → Option σ} {x : σ} {wc : va_W} {w1 w2 : Int64 → α1 → α2 → va_W} (lk : sx_lkV own index y bytes mL (some .long) np ci) (hd : decode cc pc = .ok (.invokevirtual index, 3)) (hp : pc + 3 = pc') (hst : st0 = As.reverse ++ .ref b :: st) (hnp : As.length = np) (hsum : (st.map fun v => v.category).sum ≤ 8) (hrm : h + 1 ≤ rm.frames ∧ 8 + (mL + 11) + 40 * h ≤ rm.locals ∧ k ≤ rm.cells ∧ n ≤ rm.slots) (hb0 : wc[0]? = some (b, .inr (ci, fs))) (isC : List Nat) (hnd : va_nd isC = true) (hC : isC.map (fun i => ws[i]?) = wc.map some) (hf : o.bind F = some x) (ct : ∀ (l : Launch) (r : Int64) (a1 : α1) (a2 : α2), o = some (r, a1, a2) → sx_L l d y bytes mL h (.ref b :: As) wc (w1 r a1 a2) r) (hm : ∀ (r : Int64) (a1 : α1) (a2 : α2), (w1 r a1 a2).map Prod.fst = wc.map Prod.fst) (hw : ∀ (r : Int64) (a1 : α1) (a2 : α2), sx_put ws isC (w1 r a1 a2) = w2 r a1 a2) (K : ∀ (r : Int64) (a1 : α1) (a2 : α2), F (r, a1, a2) = some x → sx_G d κ nL k n pc' lv (.long r :: st) (w2 r a1 a2)) : sx_G d κ nL k n pc lv st0 ws := g_callVl (ρ := Int64 × α1 × α2) (w1 := fun z => w1 z.1 z.2.1 z.2.2) (w2 := fun z => w2 z.1 z.2.1 z.2.2) (rv := fun z => z.1) X lk hd hp hst hnp hsum hrm hb0 isC hnd hC hf (fun l z h0 => ct l z.1 z.2.1 z.2.2 h0) (fun z => hm z.1 z.2.1 z.2.2) (fun z => hw z.1 z.2.1 z.2.2) (fun z => K z.1 z.2.1 z.2.2)
theorem g_callVl3 (X : sx_X d κ cc nL own rm) {index : Nat} {y : MethodName} {bytes : ByteArray} {mL : Nat} {np h : Nat} {b ci : Nat} {fs : List Value} {As : List Value} {α1 : Type} {α2 : Type} {α3 : Type} {σ : Type} {o : Option (Int64 × α1 × α2 × α3)} {F : Int64 × α1 × α2 × α3 → Option σ} {x : σ} {wc : va_W} {w1 w2 : Int64 → α1 → α2 → α3 → va_W} (lk : sx_lkV own index y bytes mL (some .long) np ci) (hd : decode cc pc = .ok (.invokevirtual index, 3)) (hp : pc + 3 = pc') (hst : st0 = As.reverse ++ .ref b :: st) (hnp : As.length = np) (hsum : (st.map fun v => v.category).sum ≤ 8) (hrm : h + 1 ≤ rm.frames ∧ 8 + (mL + 11) + 40 * h ≤ rm.locals ∧ k ≤ rm.cells ∧ n ≤ rm.slots) (hb0 : wc[0]? = some (b, .inr (ci, fs))) (isC : List Nat) (hnd : va_nd isC = true) (hC : isC.map (fun i => ws[i]?) = wc.map some) (hf : o.bind F = some x) (ct : ∀ (l : Launch) (r : Int64) (a1 : α1) (a2 : α2) (a3 : α3), o = some (r, a1, a2, a3) → sx_L l d y bytes mL h (.ref b :: As) wc (w1 r a1 a2 a3) r) (hm : ∀ (r : Int64) (a1 : α1) (a2 : α2) (a3 : α3), (w1 r a1 a2 a3).map Prod.fst = wc.map Prod.fst) (hw : ∀ (r : Int64) (a1 : α1) (a2 : α2) (a3 : α3), sx_put ws isC (w1 r a1 a2 a3) = w2 r a1 a2 a3) (K : ∀ (r : Int64) (a1 : α1) (a2 : α2) (a3 : α3), F (r, a1, a2, a3) = some x → sx_G d κ nL k n pc' lv (.long r :: st) (w2 r a1 a2 a3)) : sx_G d κ nL k n pc lv st0 ws := g_callVl (ρ := Int64 × α1 × α2 × α3) (w1 := fun z => w1 z.1 z.2.1 z.2.2.1 z.2.2.2) (w2 := fun z => w2 z.1 z.2.1 z.2.2.1 z.2.2.2) (rv := fun z => z.1) X lk hd hp hst hnp hsum hrm hb0 isC hnd hC hf (fun l z h0 => ct l z.1 z.2.1 z.2.2.1 z.2.2.2 h0) (fun z => hm z.1 z.2.1 z.2.2.1 z.2.2.2) (fun z => hw z.1 z.2.1 z.2.2.1 z.2.2.2) (fun z => K z.1 z.2.1 z.2.2.1 z.2.2.2)
theorem g_callVl4 (X : sx_X d κ cc nL own rm) {index : Nat} {y : MethodName} {bytes : ByteArray} {mL : Nat} {np h : Nat} {b ci : Nat} {fs : List Value} {As : List Value} {α1 : Type} {α2 : Type} {α3 : Type} {α4 : Type} {σ : Type} {o : Option (Int64 × α1 × α2 × α3 × α4)} {F : Int64 × α1 × α2 × α3 × α4 → Option σ} {x : σ} {wc : va_W} {w1 w2 : Int64 → α1 → α2 → α3 → α4 → va_W} (lk : sx_lkV own index y bytes mL (some .long) np ci) (hd : decode cc pc = .ok (.invokevirtual index, 3)) (hp : pc + 3 = pc') (hst : st0 = As.reverse ++ .ref b :: st) (hnp : As.length = np) (hsum : (st.map fun v => v.category).sum ≤ 8) (hrm : h + 1 ≤ rm.frames ∧ 8 + (mL + 11) + 40 * h ≤ rm.locals ∧ k ≤ rm.cells ∧ n ≤ rm.slots) (hb0 : wc[0]? = some (b, .inr (ci, fs))) (isC : List Nat) (hnd : va_nd isC = true) (hC : isC.map (fun i => ws[i]?) = wc.map some) (hf : o.bind F = some x) (ct : ∀ (l : Launch) (r : Int64) (a1 : α1) (a2 : α2) (a3 : α3) (a4 : α4), o = some (r, a1, a2, a3, a4) → sx_L l d y bytes mL h (.ref b :: As) wc (w1 r a1 a2 a3 a4) r) (hm : ∀ (r : Int64) (a1 : α1) (a2 : α2) (a3 : α3) (a4 : α4), (w1 r a1 a2 a3 a4).map Prod.fst = wc.map Prod.fst) (hw : ∀ (r : Int64) (a1 : α1) (a2 : α2) (a3 : α3) (a4 : α4), sx_put ws isC (w1 r a1 a2 a3 a4) = w2 r a1 a2 a3 a4) (K : ∀ (r : Int64) (a1 : α1) (a2 : α2) (a3 : α3) (a4 : α4), F (r, a1, a2, a3, a4) = some x → sx_G d κ nL k n pc' lv (.long r :: st) (w2 r a1 a2 a3 a4)) : sx_G d κ nL k n pc lv st0 ws := g_callVl (ρ := Int64 × α1 × α2 × α3 × α4) (w1 := fun z => w1 z.1 z.2.1 z.2.2.1 z.2.2.2.1 z.2.2.2.2) (w2 := fun z => w2 z.1 z.2.1 z.2.2.1 z.2.2.2.1 z.2.2.2.2) (rv := fun z => z.1) X lk hd hp hst hnp hsum hrm hb0 isC hnd hC hf (fun l z h0 => ct l z.1 z.2.1 z.2.2.1 z.2.2.2.1 z.2.2.2.2 h0) (fun z => hm z.1 z.2.1 z.2.2.1 z.2.2.2.1 z.2.2.2.2) (fun z => hw z.1 z.2.1 z.2.2.1 z.2.2.2.1 z.2.2.2.2) (fun z => K z.1 z.2.1 z.2.2.1 z.2.2.2.1 z.2.2.2.2)
theorem g_callVl5 (X : sx_X d κ cc nL own rm) {index : Nat} {y : MethodName} {bytes : ByteArray} {mL : Nat} {np h : Nat} {b ci : Nat} {fs : List Value} {As : List Value} {α1 : Type} {α2 : Type} {α3 : Type} {α4 : Type} {α5 : Type} {σ : Type} {o : Option (Int64 × α1 × α2 × α3 × α4 × α5)} {F : Int64 × α1 × α2 × α3 × α4 × α5 → Option σ} {x : σ} {wc : va_W} {w1 w2 : Int64 → α1 → α2 → α3 → α4 → α5 → va_W} (lk : sx_lkV own index y bytes mL (some .long) np ci) (hd : decode cc pc = .ok (.invokevirtual index, 3)) (hp : pc + 3 = pc') (hst : st0 = As.reverse ++ .ref b :: st) (hnp : As.length = np) (hsum : (st.map fun v => v.category).sum ≤ 8) (hrm : h + 1 ≤ rm.frames ∧ 8 + (mL + 11) + 40 * h ≤ rm.locals ∧ k ≤ rm.cells ∧ n ≤ rm.slots) (hb0 : wc[0]? = some (b, .inr (ci, fs))) (isC : List Nat) (hnd : va_nd isC = true) (hC : isC.map (fun i => ws[i]?) = wc.map some) (hf : o.bind F = some x) (ct : ∀ (l : Launch) (r : Int64) (a1 : α1) (a2 : α2) (a3 : α3) (a4 : α4) (a5 : α5), o = some (r, a1, a2, a3, a4, a5) → sx_L l d y bytes mL h (.ref b :: As) wc (w1 r a1 a2 a3 a4 a5) r) (hm : ∀ (r : Int64) (a1 : α1) (a2 : α2) (a3 : α3) (a4 : α4) (a5 : α5), (w1 r a1 a2 a3 a4 a5).map Prod.fst = wc.map Prod.fst) (hw : ∀ (r : Int64) (a1 : α1) (a2 : α2) (a3 : α3) (a4 : α4) (a5 : α5), sx_put ws isC (w1 r a1 a2 a3 a4 a5) = w2 r a1 a2 a3 a4 a5) (K : ∀ (r : Int64) (a1 : α1) (a2 : α2) (a3 : α3) (a4 : α4) (a5 : α5), F (r, a1, a2, a3, a4, a5) = some x → sx_G d κ nL k n pc' lv (.long r :: st) (w2 r a1 a2 a3 a4 a5)) : sx_G d κ nL k n pc lv st0 ws := g_callVl (ρ := Int64 × α1 × α2 × α3 × α4 × α5) (w1 := fun z => w1 z.1 z.2.1 z.2.2.1 z.2.2.2.1 z.2.2.2.2.1 z.2.2.2.2.2) (w2 := fun z => w2 z.1 z.2.1 z.2.2.1 z.2.2.2.1 z.2.2.2.2.1 z.2.2.2.2.2) (rv := fun z => z.1) X lk hd hp hst hnp hsum hrm hb0 isC hnd hC hf (fun l z h0 => ct l z.1 z.2.1 z.2.2.1 z.2.2.2.1 z.2.2.2.2.1 z.2.2.2.2.2 h0) (fun z => hm z.1 z.2.1 z.2.2.1 z.2.2.2.1 z.2.2.2.2.1 z.2.2.2.2.2) (fun z => hw z.1 z.2.1 z.2.2.1 z.2.2.2.1 z.2.2.2.2.1 z.2.2.2.2.2) (fun z => K z.1 z.2.1 z.2.2.1 z.2.2.2.1 z.2.2.2.2.1 z.2.2.2.2.2)
theorem g_callVl6 (X : sx_X d κ cc nL own rm) {index : Nat} {y : MethodName} {bytes : ByteArray} {mL : Nat} {np h : Nat} {b ci : Nat} {fs : List Value} {As : List Value} {α1 : Type} {α2 : Type} {α3 : Type} {α4 : Type} {α5 : Type} {α6 : Type} {σ : Type} {o : Option (Int64 × α1 × α2 × α3 × α4 × α5 × α6)} {F : Int64 × α1 × α2 × α3 × α4 × α5 × α6 → Option σ} {x : σ} {wc : va_W} {w1 w2 : Int64 → α1 → α2 → α3 → α4 → α5 → α6 → va_W} (lk : sx_lkV own index y bytes mL (some .long) np ci) (hd : decode cc pc = .ok (.invokevirtual index, 3)) (hp : pc + 3 = pc') (hst : st0 = As.reverse ++ .ref b :: st) (hnp : As.length = np) (hsum : (st.map fun v => v.category).sum ≤ 8) (hrm : h + 1 ≤ rm.frames ∧ 8 + (mL + 11) + 40 * h ≤ rm.locals ∧ k ≤ rm.cells ∧ n ≤ rm.slots) (hb0 : wc[0]? = some (b, .inr (ci, fs))) (isC : List Nat) (hnd : va_nd isC = true) (hC : isC.map (fun i => ws[i]?) = wc.map some) (hf : o.bind F = some x) (ct : ∀ (l : Launch) (r : Int64) (a1 : α1) (a2 : α2) (a3 : α3) (a4 : α4) (a5 : α5) (a6 : α6), o = some (r, a1, a2, a3, a4, a5, a6) → sx_L l d y bytes mL h (.ref b :: As) wc (w1 r a1 a2 a3 a4 a5 a6) r) (hm : ∀ (r : Int64) (a1 : α1) (a2 : α2) (a3 : α3) (a4 : α4) (a5 : α5) (a6 : α6), (w1 r a1 a2 a3 a4 a5 a6).map Prod.fst = wc.map Prod.fst) (hw : ∀ (r : Int64) (a1 : α1) (a2 : α2) (a3 : α3) (a4 : α4) (a5 : α5) (a6 : α6), sx_put ws isC (w1 r a1 a2 a3 a4 a5 a6) = w2 r a1 a2 a3 a4 a5 a6) (K : ∀ (r : Int64) (a1 : α1) (a2 : α2) (a3 : α3) (a4 : α4) (a5 : α5) (a6 : α6), F (r, a1, a2, a3, a4, a5, a6) = some x → sx_G d κ nL k n pc' lv (.long r :: st) (w2 r a1 a2 a3 a4 a5 a6)) : sx_G d κ nL k n pc lv st0 ws := g_callVl (ρ := Int64 × α1 × α2 × α3 × α4 × α5 × α6) (w1 := fun z => w1 z.1 z.2.1 z.2.2.1 z.2.2.2.1 z.2.2.2.2.1 z.2.2.2.2.2.1 z.2.2.2.2.2.2) (w2 := fun z => w2 z.1 z.2.1 z.2.2.1 z.2.2.2.1 z.2.2.2.2.1 z.2.2.2.2.2.1 z.2.2.2.2.2.2) (rv := fun z => z.1) X lk hd hp hst hnp hsum hrm hb0 isC hnd hC hf (fun l z h0 => ct l z.1 z.2.1 z.2.2.1 z.2.2.2.1 z.2.2.2.2.1 z.2.2.2.2.2.1 z.2.2.2.2.2.2 h0) (fun z => hm z.1 z.2.1 z.2.2.1 z.2.2.2.1 z.2.2.2.2.1 z.2.2.2.2.2.1 z.2.2.2.2.2.2) (fun z => hw z.1 z.2.1 z.2.2.1 z.2.2.2.1 z.2.2.2.2.1 z.2.2.2.2.2.1 z.2.2.2.2.2.2) (fun z => K z.1 z.2.1 z.2.2.1 z.2.2.2.1 z.2.2.2.2.1 z.2.2.2.2.2.1 z.2.2.2.2.2.2)
theorem g_callVl7 (X : sx_X d κ cc nL own rm) {index : Nat} {y : MethodName} {bytes : ByteArray} {mL : Nat} {np h : Nat} {b ci : Nat} {fs : List Value} {As : List Value} {α1 : Type} {α2 : Type} {α3 : Type} {α4 : Type} {α5 : Type} {α6 : Type} {α7 : Type} {σ : Type} {o : Option (Int64 × α1 × α2 × α3 × α4 × α5 × α6 × α7)} {F : Int64 × α1 × α2 × α3 × α4 × α5 × α6 × α7 → Option σ} {x : σ} {wc : va_W} {w1 w2 : Int64 → α1 → α2 → α3 → α4 → α5 → α6 → α7 → va_W} (lk : sx_lkV own index y bytes mL (some .long) np ci) (hd : decode cc pc = .ok (.invokevirtual index, 3)) (hp : pc + 3 = pc') (hst : st0 = As.reverse ++ .ref b :: st) (hnp : As.length = np) (hsum : (st.map fun v => v.category).sum ≤ 8) (hrm : h + 1 ≤ rm.frames ∧ 8 + (mL + 11) + 40 * h ≤ rm.locals ∧ k ≤ rm.cells ∧ n ≤ rm.slots) (hb0 : wc[0]? = some (b, .inr (ci, fs))) (isC : List Nat) (hnd : va_nd isC = true) (hC : isC.map (fun i => ws[i]?) = wc.map some) (hf : o.bind F = some x) (ct : ∀ (l : Launch) (r : Int64) (a1 : α1) (a2 : α2) (a3 : α3) (a4 : α4) (a5 : α5) (a6 : α6) (a7 : α7), o = some (r, a1, a2, a3, a4, a5, a6, a7) → sx_L l d y bytes mL h (.ref b :: As) wc (w1 r a1 a2 a3 a4 a5 a6 a7) r) (hm : ∀ (r : Int64) (a1 : α1) (a2 : α2) (a3 : α3) (a4 : α4) (a5 : α5) (a6 : α6) (a7 : α7), (w1 r a1 a2 a3 a4 a5 a6 a7).map Prod.fst = wc.map Prod.fst) (hw : ∀ (r : Int64) (a1 : α1) (a2 : α2) (a3 : α3) (a4 : α4) (a5 : α5) (a6 : α6) (a7 : α7), sx_put ws isC (w1 r a1 a2 a3 a4 a5 a6 a7) = w2 r a1 a2 a3 a4 a5 a6 a7) (K : ∀ (r : Int64) (a1 : α1) (a2 : α2) (a3 : α3) (a4 : α4) (a5 : α5) (a6 : α6) (a7 : α7), F (r, a1, a2, a3, a4, a5, a6, a7) = some x → sx_G d κ nL k n pc' lv (.long r :: st) (w2 r a1 a2 a3 a4 a5 a6 a7)) : sx_G d κ nL k n pc lv st0 ws := g_callVl (ρ := Int64 × α1 × α2 × α3 × α4 × α5 × α6 × α7) (w1 := fun z => w1 z.1 z.2.1 z.2.2.1 z.2.2.2.1 z.2.2.2.2.1 z.2.2.2.2.2.1 z.2.2.2.2.2.2.1 z.2.2.2.2.2.2.2) (w2 := fun z => w2 z.1 z.2.1 z.2.2.1 z.2.2.2.1 z.2.2.2.2.1 z.2.2.2.2.2.1 z.2.2.2.2.2.2.1 z.2.2.2.2.2.2.2) (rv := fun z => z.1) X lk hd hp hst hnp hsum hrm hb0 isC hnd hC hf (fun l z h0 => ct l z.1 z.2.1 z.2.2.1 z.2.2.2.1 z.2.2.2.2.1 z.2.2.2.2.2.1 z.2.2.2.2.2.2.1 z.2.2.2.2.2.2.2 h0) (fun z => hm z.1 z.2.1 z.2.2.1 z.2.2.2.1 z.2.2.2.2.1 z.2.2.2.2.2.1 z.2.2.2.2.2.2.1 z.2.2.2.2.2.2.2) (fun z => hw z.1 z.2.1 z.2.2.1 z.2.2.2.1 z.2.2.2.2.1 z.2.2.2.2.2.1 z.2.2.2.2.2.2.1 z.2.2.2.2.2.2.2) (fun z => K z.1 z.2.1 z.2.2.1 z.2.2.2.1 z.2.2.2.2.1 z.2.2.2.2.2.1 z.2.2.2.2.2.2.1 z.2.2.2.2.2.2.2)
theorem g_callVl8 (X : sx_X d κ cc nL own rm) {index : Nat} {y : MethodName} {bytes : ByteArray} {mL : Nat} {np h : Nat} {b ci : Nat} {fs : List Value} {As : List Value} {α1 : Type} {α2 : Type} {α3 : Type} {α4 : Type} {α5 : Type} {α6 : Type} {α7 : Type} {α8 : Type} {σ : Type} {o : Option (Int64 × α1 × α2 × α3 × α4 × α5 × α6 × α7 × α8)} {F : Int64 × α1 × α2 × α3 × α4 × α5 × α6 × α7 × α8 → Option σ} {x : σ} {wc : va_W} {w1 w2 : Int64 → α1 → α2 → α3 → α4 → α5 → α6 → α7 → α8 → va_W} (lk : sx_lkV own index y bytes mL (some .long) np ci) (hd : decode cc pc = .ok (.invokevirtual index, 3)) (hp : pc + 3 = pc') (hst : st0 = As.reverse ++ .ref b :: st) (hnp : As.length = np) (hsum : (st.map fun v => v.category).sum ≤ 8) (hrm : h + 1 ≤ rm.frames ∧ 8 + (mL + 11) + 40 * h ≤ rm.locals ∧ k ≤ rm.cells ∧ n ≤ rm.slots) (hb0 : wc[0]? = some (b, .inr (ci, fs))) (isC : List Nat) (hnd : va_nd isC = true) (hC : isC.map (fun i => ws[i]?) = wc.map some) (hf : o.bind F = some x) (ct : ∀ (l : Launch) (r : Int64) (a1 : α1) (a2 : α2) (a3 : α3) (a4 : α4) (a5 : α5) (a6 : α6) (a7 : α7) (a8 : α8), o = some (r, a1, a2, a3, a4, a5, a6, a7, a8) → sx_L l d y bytes mL h (.ref b :: As) wc (w1 r a1 a2 a3 a4 a5 a6 a7 a8) r) (hm : ∀ (r : Int64) (a1 : α1) (a2 : α2) (a3 : α3) (a4 : α4) (a5 : α5) (a6 : α6) (a7 : α7) (a8 : α8), (w1 r a1 a2 a3 a4 a5 a6 a7 a8).map Prod.fst = wc.map Prod.fst) (hw : ∀ (r : Int64) (a1 : α1) (a2 : α2) (a3 : α3) (a4 : α4) (a5 : α5) (a6 : α6) (a7 : α7) (a8 : α8), sx_put ws isC (w1 r a1 a2 a3 a4 a5 a6 a7 a8) = w2 r a1 a2 a3 a4 a5 a6 a7 a8) (K : ∀ (r : Int64) (a1 : α1) (a2 : α2) (a3 : α3) (a4 : α4) (a5 : α5) (a6 : α6) (a7 : α7) (a8 : α8), F (r, a1, a2, a3, a4, a5, a6, a7, a8) = some x → sx_G d κ nL k n pc' lv (.long r :: st) (w2 r a1 a2 a3 a4 a5 a6 a7 a8)) : sx_G d κ nL k n pc lv st0 ws := g_callVl (ρ := Int64 × α1 × α2 × α3 × α4 × α5 × α6 × α7 × α8) (w1 := fun z => w1 z.1 z.2.1 z.2.2.1 z.2.2.2.1 z.2.2.2.2.1 z.2.2.2.2.2.1 z.2.2.2.2.2.2.1 z.2.2.2.2.2.2.2.1 z.2.2.2.2.2.2.2.2) (w2 := fun z => w2 z.1 z.2.1 z.2.2.1 z.2.2.2.1 z.2.2.2.2.1 z.2.2.2.2.2.1 z.2.2.2.2.2.2.1 z.2.2.2.2.2.2.2.1 z.2.2.2.2.2.2.2.2) (rv := fun z => z.1) X lk hd hp hst hnp hsum hrm hb0 isC hnd hC hf (fun l z h0 => ct l z.1 z.2.1 z.2.2.1 z.2.2.2.1 z.2.2.2.2.1 z.2.2.2.2.2.1 z.2.2.2.2.2.2.1 z.2.2.2.2.2.2.2.1 z.2.2.2.2.2.2.2.2 h0) (fun z => hm z.1 z.2.1 z.2.2.1 z.2.2.2.1 z.2.2.2.2.1 z.2.2.2.2.2.1 z.2.2.2.2.2.2.1 z.2.2.2.2.2.2.2.1 z.2.2.2.2.2.2.2.2) (fun z => hw z.1 z.2.1 z.2.2.1 z.2.2.2.1 z.2.2.2.2.1 z.2.2.2.2.2.1 z.2.2.2.2.2.2.1 z.2.2.2.2.2.2.2.1 z.2.2.2.2.2.2.2.2) (fun z => K z.1 z.2.1 z.2.2.1 z.2.2.2.1 z.2.2.2.2.1 z.2.2.2.2.2.1 z.2.2.2.2.2.2.1 z.2.2.2.2.2.2.2.1 z.2.2.2.2.2.2.2.2)
theorem g_callSi (X : sx_X d κ cc nL own rm) {index : Nat} {y : MethodName} {bytes : ByteArray} {mL : Nat} {ret : FieldType} {np h : Nat} {As : List Value} {ρ σ : Type} {o : Option ρ} {F : ρ → Option σ} {x : σ} {wc : va_W} {w1 w2 : ρ → va_W} {rv : ρ → Int32} (lk : sx_lkS own index y bytes mL (some ret) np) (hd : decode cc pc = .ok (.invokestatic index, 3)) (hp : pc + 3 = pc') (hst : st0 = As.reverse ++ st) (hnp : As.length = np) (hsum : (st.map fun v => v.category).sum ≤ 8) (hrm : h + 1 ≤ rm.frames ∧ 8 + (mL + 11) + 40 * h ≤ rm.locals ∧ k ≤ rm.cells ∧ n ≤ rm.slots) (isC : List Nat) (hnd : va_nd isC = true) (hC : isC.map (fun i => ws[i]?) = wc.map some) (hf : o.bind F = some x) (ct : ∀ (l : Launch) (y0 : ρ), o = some y0 → sx_I l d y bytes mL ret h As wc (w1 y0) (rv y0)) (hm : ∀ y0, (w1 y0).map Prod.fst = wc.map Prod.fst) (hw : ∀ y0, sx_put ws isC (w1 y0) = w2 y0) (K : ∀ y0, narrow ret (.int (rv y0)) = .int (rv y0) → F y0 = some x → sx_G d κ nL k n pc' lv (.int (rv y0) :: st) (w2 y0)) : sx_G d κ nL k n pc lv st0 ws := by
  obtain ⟨y0, h1, h2⟩ := sx_bd hf
  obtain ⟨⟨p, l, e, R, s, m, args, below, meth, c⟩, A, Q⟩ := κ
  have hc := ct l y0 h1
  subst hp
  subst hst
  intro H locs ls hP hD hS hl
  have hPc : va_P d.1 vwCl wc H := hP.sub isC (by
    have h9 := congrArg (fun x : List (Option (Nat × va_E)) => x.filterMap id) hC
    simpa [List.filterMap_map, Function.comp_def] using h9)
  have hDc : va_D A wc := hD.sub isC hnd hC
  have hFc := va_free (wc := wc) hD hS X.2.2.2.2.2.2.1 isC hC
  refine va_calli (sx_runS X lk hd hnp hsum hrm (hc H.size) hPc (hDc.weaken (fun _ _ _ _ => trivial)) hl) hS (fun q _ h => hFc q h) hFc (fun r u t H1 locs ht hvm hw0 hB hz1 hk1 hS => ?_)
  obtain ⟨rfl, hn⟩ := hw0
  rw [ht] at hB
  obtain ⟨hP2, hD2⟩ := sx_put_P hP hD isC hC (hm y0) hk1 hB
  rw [hw] at hP2 hD2
  exact K y0 hn h2 H1 locs ls hP2 hD2 hS hl
theorem g_callSi0 (X : sx_X d κ cc nL own rm) {index : Nat} {y : MethodName} {bytes : ByteArray} {mL : Nat} {ret : FieldType} {np h : Nat} {As : List Value}  {σ : Type} {o : Option (Int32)} {F : Int32 → Option σ} {x : σ} {wc : va_W} {w1 w2 : Int32 → va_W} (lk : sx_lkS own index y bytes mL (some ret) np) (hd : decode cc pc = .ok (.invokestatic index, 3)) (hp : pc + 3 = pc') (hst : st0 = As.reverse ++ st) (hnp : As.length = np) (hsum : (st.map fun v => v.category).sum ≤ 8) (hrm : h + 1 ≤ rm.frames ∧ 8 + (mL + 11) + 40 * h ≤ rm.locals ∧ k ≤ rm.cells ∧ n ≤ rm.slots) (isC : List Nat) (hnd : va_nd isC = true) (hC : isC.map (fun i => ws[i]?) = wc.map some) (hf : o.bind F = some x) (ct : ∀ (l : Launch) (r : Int32), o = some r → sx_I l d y bytes mL ret h As wc (w1 r) r) (hm : ∀ (r : Int32), (w1 r).map Prod.fst = wc.map Prod.fst) (hw : ∀ (r : Int32), sx_put ws isC (w1 r) = w2 r) (K : ∀ (r : Int32), narrow ret (.int r) = .int r → F r = some x → sx_G d κ nL k n pc' lv (.int r :: st) (w2 r)) : sx_G d κ nL k n pc lv st0 ws := g_callSi (ρ := Int32) (w1 := fun z => w1 z) (w2 := fun z => w2 z) (rv := fun z => z) X lk hd hp hst hnp hsum hrm isC hnd hC hf (fun l z h0 => ct l z h0) (fun z => hm z) (fun z => hw z) (fun z => K z)
theorem g_callSi1 (X : sx_X d κ cc nL own rm) {index : Nat} {y : MethodName} {bytes : ByteArray} {mL : Nat} {ret : FieldType} {np h : Nat} {As : List Value} {α1 : Type} {σ : Type} {o : Option (Int32 × α1)} {F : Int32 × α1 → Option σ} {x : σ} {wc : va_W} {w1 w2 : Int32 → α1 → va_W} (lk : sx_lkS own index y bytes mL (some ret) np) (hd : decode cc pc = .ok (.invokestatic index, 3)) (hp : pc + 3 = pc') (hst : st0 = As.reverse ++ st) (hnp : As.length = np) (hsum : (st.map fun v => v.category).sum ≤ 8) (hrm : h + 1 ≤ rm.frames ∧ 8 + (mL + 11) + 40 * h ≤ rm.locals ∧ k ≤ rm.cells ∧ n ≤ rm.slots) (isC : List Nat) (hnd : va_nd isC = true) (hC : isC.map (fun i => ws[i]?) = wc.map some) (hf : o.bind F = some x) (ct : ∀ (l : Launch) (r : Int32) (a1 : α1), o = some (r, a1) → sx_I l d y bytes mL ret h As wc (w1 r a1) r) (hm : ∀ (r : Int32) (a1 : α1), (w1 r a1).map Prod.fst = wc.map Prod.fst) (hw : ∀ (r : Int32) (a1 : α1), sx_put ws isC (w1 r a1) = w2 r a1) (K : ∀ (r : Int32) (a1 : α1), narrow ret (.int r) = .int r → F (r, a1) = some x → sx_G d κ nL k n pc' lv (.int r :: st) (w2 r a1)) : sx_G d κ nL k n pc lv st0 ws := g_callSi (ρ := Int32 × α1) (w1 := fun z => w1 z.1 z.2) (w2 := fun z => w2 z.1 z.2) (rv := fun z => z.1) X lk hd hp hst hnp hsum hrm isC hnd hC hf (fun l z h0 => ct l z.1 z.2 h0) (fun z => hm z.1 z.2) (fun z => hw z.1 z.2) (fun z => K z.1 z.2)
theorem g_callSi2 (X : sx_X d κ cc nL own rm) {index : Nat} {y : MethodName} {bytes : ByteArray} {mL : Nat} {ret : FieldType} {np h : Nat} {As : List Value} {α1 : Type} {α2 : Type} {σ : Type} {o : Option (Int32 × α1 × α2)} {F : Int32 × α1 × α2 → Option σ} {x : σ} {wc : va_W} {w1 w2 : Int32 → α1 → α2 → va_W} (lk : sx_lkS own index y bytes mL (some ret) np) (hd : decode cc pc = .ok (.invokestatic index, 3)) (hp : pc + 3 = pc') (hst : st0 = As.reverse ++ st) (hnp : As.length = np) (hsum : (st.map fun v => v.category).sum ≤ 8) (hrm : h + 1 ≤ rm.frames ∧ 8 + (mL + 11) + 40 * h ≤ rm.locals ∧ k ≤ rm.cells ∧ n ≤ rm.slots) (isC : List Nat) (hnd : va_nd isC = true) (hC : isC.map (fun i => ws[i]?) = wc.map some) (hf : o.bind F = some x) (ct : ∀ (l : Launch) (r : Int32) (a1 : α1) (a2 : α2), o = some (r, a1, a2) → sx_I l d y bytes mL ret h As wc (w1 r a1 a2) r) (hm : ∀ (r : Int32) (a1 : α1) (a2 : α2), (w1 r a1 a2).map Prod.fst = wc.map Prod.fst) (hw : ∀ (r : Int32) (a1 : α1) (a2 : α2), sx_put ws isC (w1 r a1 a2) = w2 r a1 a2) (K : ∀ (r : Int32) (a1 : α1) (a2 : α2), narrow ret (.int r) = .int r → F (r, a1, a2) = some x → sx_G d κ nL k n pc' lv (.int r :: st) (w2 r a1 a2)) : sx_G d κ nL k n pc lv st0 ws := g_callSi (ρ := Int32 × α1 × α2) (w1 := fun z => w1 z.1 z.2.1 z.2.2) (w2 := fun z => w2 z.1 z.2.1 z.2.2) (rv := fun z => z.1) X lk hd hp hst hnp hsum hrm isC hnd hC hf (fun l z h0 => ct l z.1 z.2.1 z.2.2 h0) (fun z => hm z.1 z.2.1 z.2.2) (fun z => hw z.1 z.2.1 z.2.2) (fun z => K z.1 z.2.1 z.2.2)
theorem g_callSi3 (X : sx_X d κ cc nL own rm) {index : Nat} {y : MethodName} {bytes : ByteArray} {mL : Nat} {ret : FieldType} {np h : Nat} {As : List Value} {α1 : Type} {α2 : Type} {α3 : Type} {σ : Type} {o : Option (Int32 × α1 × α2 × α3)} {F : Int32 × α1 × α2 × α3 → Option σ} {x : σ} {wc : va_W} {w1 w2 : Int32 → α1 → α2 → α3 → va_W} (lk : sx_lkS own index y bytes mL (some ret) np) (hd : decode cc pc = .ok (.invokestatic index, 3)) (hp : pc + 3 = pc') (hst : st0 = As.reverse ++ st) (hnp : As.length = np) (hsum : (st.map fun v => v.category).sum ≤ 8) (hrm : h + 1 ≤ rm.frames ∧ 8 + (mL + 11) + 40 * h ≤ rm.locals ∧ k ≤ rm.cells ∧ n ≤ rm.slots) (isC : List Nat) (hnd : va_nd isC = true) (hC : isC.map (fun i => ws[i]?) = wc.map some) (hf : o.bind F = some x) (ct : ∀ (l : Launch) (r : Int32) (a1 : α1) (a2 : α2) (a3 : α3), o = some (r, a1, a2, a3) → sx_I l d y bytes mL ret h As wc (w1 r a1 a2 a3) r) (hm : ∀ (r : Int32) (a1 : α1) (a2 : α2) (a3 : α3), (w1 r a1 a2 a3).map Prod.fst = wc.map Prod.fst) (hw : ∀ (r : Int32) (a1 : α1) (a2 : α2) (a3 : α3), sx_put ws isC (w1 r a1 a2 a3) = w2 r a1 a2 a3) (K : ∀ (r : Int32) (a1 : α1) (a2 : α2) (a3 : α3), narrow ret (.int r) = .int r → F (r, a1, a2, a3) = some x → sx_G d κ nL k n pc' lv (.int r :: st) (w2 r a1 a2 a3)) : sx_G d κ nL k n pc lv st0 ws := g_callSi (ρ := Int32 × α1 × α2 × α3) (w1 := fun z => w1 z.1 z.2.1 z.2.2.1 z.2.2.2) (w2 := fun z => w2 z.1 z.2.1 z.2.2.1 z.2.2.2) (rv := fun z => z.1) X lk hd hp hst hnp hsum hrm isC hnd hC hf (fun l z h0 => ct l z.1 z.2.1 z.2.2.1 z.2.2.2 h0) (fun z => hm z.1 z.2.1 z.2.2.1 z.2.2.2) (fun z => hw z.1 z.2.1 z.2.2.1 z.2.2.2) (fun z => K z.1 z.2.1 z.2.2.1 z.2.2.2)
theorem g_callSi4 (X : sx_X d κ cc nL own rm) {index : Nat} {y : MethodName} {bytes : ByteArray} {mL : Nat} {ret : FieldType} {np h : Nat} {As : List Value} {α1 : Type} {α2 : Type} {α3 : Type} {α4 : Type} {σ : Type} {o : Option (Int32 × α1 × α2 × α3 × α4)} {F : Int32 × α1 × α2 × α3 × α4 → Option σ} {x : σ} {wc : va_W} {w1 w2 : Int32 → α1 → α2 → α3 → α4 → va_W} (lk : sx_lkS own index y bytes mL (some ret) np) (hd : decode cc pc = .ok (.invokestatic index, 3)) (hp : pc + 3 = pc') (hst : st0 = As.reverse ++ st) (hnp : As.length = np) (hsum : (st.map fun v => v.category).sum ≤ 8) (hrm : h + 1 ≤ rm.frames ∧ 8 + (mL + 11) + 40 * h ≤ rm.locals ∧ k ≤ rm.cells ∧ n ≤ rm.slots) (isC : List Nat) (hnd : va_nd isC = true) (hC : isC.map (fun i => ws[i]?) = wc.map some) (hf : o.bind F = some x) (ct : ∀ (l : Launch) (r : Int32) (a1 : α1) (a2 : α2) (a3 : α3) (a4 : α4), o = some (r, a1, a2, a3, a4) → sx_I l d y bytes mL ret h As wc (w1 r a1 a2 a3 a4) r) (hm : ∀ (r : Int32) (a1 : α1) (a2 : α2) (a3 : α3) (a4 : α4), (w1 r a1 a2 a3 a4).map Prod.fst = wc.map Prod.fst) (hw : ∀ (r : Int32) (a1 : α1) (a2 : α2) (a3 : α3) (a4 : α4), sx_put ws isC (w1 r a1 a2 a3 a4) = w2 r a1 a2 a3 a4) (K : ∀ (r : Int32) (a1 : α1) (a2 : α2) (a3 : α3) (a4 : α4), narrow ret (.int r) = .int r → F (r, a1, a2, a3, a4) = some x → sx_G d κ nL k n pc' lv (.int r :: st) (w2 r a1 a2 a3 a4)) : sx_G d κ nL k n pc lv st0 ws := g_callSi (ρ := Int32 × α1 × α2 × α3 × α4) (w1 := fun z => w1 z.1 z.2.1 z.2.2.1 z.2.2.2.1 z.2.2.2.2) (w2 := fun z => w2 z.1 z.2.1 z.2.2.1 z.2.2.2.1 z.2.2.2.2) (rv := fun z => z.1) X lk hd hp hst hnp hsum hrm isC hnd hC hf (fun l z h0 => ct l z.1 z.2.1 z.2.2.1 z.2.2.2.1 z.2.2.2.2 h0) (fun z => hm z.1 z.2.1 z.2.2.1 z.2.2.2.1 z.2.2.2.2) (fun z => hw z.1 z.2.1 z.2.2.1 z.2.2.2.1 z.2.2.2.2) (fun z => K z.1 z.2.1 z.2.2.1 z.2.2.2.1 z.2.2.2.2)
theorem g_callSi5 (X : sx_X d κ cc nL own rm) {index : Nat} {y : MethodName} {bytes : ByteArray} {mL : Nat} {ret : FieldType} {np h : Nat} {As : List Value} {α1 : Type} {α2 : Type} {α3 : Type} {α4 : Type} {α5 : Type} {σ : Type} {o : Option (Int32 × α1 × α2 × α3 × α4 × α5)} {F : Int32 × α1 × α2 × α3 × α4 × α5 → Option σ} {x : σ} {wc : va_W} {w1 w2 : Int32 → α1 → α2 → α3 → α4 → α5 → va_W} (lk : sx_lkS own index y bytes mL (some ret) np) (hd : decode cc pc = .ok (.invokestatic index, 3)) (hp : pc + 3 = pc') (hst : st0 = As.reverse ++ st) (hnp : As.length = np) (hsum : (st.map fun v => v.category).sum ≤ 8) (hrm : h + 1 ≤ rm.frames ∧ 8 + (mL + 11) + 40 * h ≤ rm.locals ∧ k ≤ rm.cells ∧ n ≤ rm.slots) (isC : List Nat) (hnd : va_nd isC = true) (hC : isC.map (fun i => ws[i]?) = wc.map some) (hf : o.bind F = some x) (ct : ∀ (l : Launch) (r : Int32) (a1 : α1) (a2 : α2) (a3 : α3) (a4 : α4) (a5 : α5), o = some (r, a1, a2, a3, a4, a5) → sx_I l d y bytes mL ret h As wc (w1 r a1 a2 a3 a4 a5) r) (hm : ∀ (r : Int32) (a1 : α1) (a2 : α2) (a3 : α3) (a4 : α4) (a5 : α5), (w1 r a1 a2 a3 a4 a5).map Prod.fst = wc.map Prod.fst) (hw : ∀ (r : Int32) (a1 : α1) (a2 : α2) (a3 : α3) (a4 : α4) (a5 : α5), sx_put ws isC (w1 r a1 a2 a3 a4 a5) = w2 r a1 a2 a3 a4 a5) (K : ∀ (r : Int32) (a1 : α1) (a2 : α2) (a3 : α3) (a4 : α4) (a5 : α5), narrow ret (.int r) = .int r → F (r, a1, a2, a3, a4, a5) = some x → sx_G d κ nL k n pc' lv (.int r :: st) (w2 r a1 a2 a3 a4 a5)) : sx_G d κ nL k n pc lv st0 ws := g_callSi (ρ := Int32 × α1 × α2 × α3 × α4 × α5) (w1 := fun z => w1 z.1 z.2.1 z.2.2.1 z.2.2.2.1 z.2.2.2.2.1 z.2.2.2.2.2) (w2 := fun z => w2 z.1 z.2.1 z.2.2.1 z.2.2.2.1 z.2.2.2.2.1 z.2.2.2.2.2) (rv := fun z => z.1) X lk hd hp hst hnp hsum hrm isC hnd hC hf (fun l z h0 => ct l z.1 z.2.1 z.2.2.1 z.2.2.2.1 z.2.2.2.2.1 z.2.2.2.2.2 h0) (fun z => hm z.1 z.2.1 z.2.2.1 z.2.2.2.1 z.2.2.2.2.1 z.2.2.2.2.2) (fun z => hw z.1 z.2.1 z.2.2.1 z.2.2.2.1 z.2.2.2.2.1 z.2.2.2.2.2) (fun z => K z.1 z.2.1 z.2.2.1 z.2.2.2.1 z.2.2.2.2.1 z.2.2.2.2.2)
theorem g_callSi6 (X : sx_X d κ cc nL own rm) {index : Nat} {y : MethodName} {bytes : ByteArray} {mL : Nat} {ret : FieldType} {np h : Nat} {As : List Value} {α1 : Type} {α2 : Type} {α3 : Type} {α4 : Type} {α5 : Type} {α6 : Type} {σ : Type} {o : Option (Int32 × α1 × α2 × α3 × α4 × α5 × α6)} {F : Int32 × α1 × α2 × α3 × α4 × α5 × α6 → Option σ} {x : σ} {wc : va_W} {w1 w2 : Int32 → α1 → α2 → α3 → α4 → α5 → α6 → va_W} (lk : sx_lkS own index y bytes mL (some ret) np) (hd : decode cc pc = .ok (.invokestatic index, 3)) (hp : pc + 3 = pc') (hst : st0 = As.reverse ++ st) (hnp : As.length = np) (hsum : (st.map fun v => v.category).sum ≤ 8) (hrm : h + 1 ≤ rm.frames ∧ 8 + (mL + 11) + 40 * h ≤ rm.locals ∧ k ≤ rm.cells ∧ n ≤ rm.slots) (isC : List Nat) (hnd : va_nd isC = true) (hC : isC.map (fun i => ws[i]?) = wc.map some) (hf : o.bind F = some x) (ct : ∀ (l : Launch) (r : Int32) (a1 : α1) (a2 : α2) (a3 : α3) (a4 : α4) (a5 : α5) (a6 : α6), o = some (r, a1, a2, a3, a4, a5, a6) → sx_I l d y bytes mL ret h As wc (w1 r a1 a2 a3 a4 a5 a6) r) (hm : ∀ (r : Int32) (a1 : α1) (a2 : α2) (a3 : α3) (a4 : α4) (a5 : α5) (a6 : α6), (w1 r a1 a2 a3 a4 a5 a6).map Prod.fst = wc.map Prod.fst) (hw : ∀ (r : Int32) (a1 : α1) (a2 : α2) (a3 : α3) (a4 : α4) (a5 : α5) (a6 : α6), sx_put ws isC (w1 r a1 a2 a3 a4 a5 a6) = w2 r a1 a2 a3 a4 a5 a6) (K : ∀ (r : Int32) (a1 : α1) (a2 : α2) (a3 : α3) (a4 : α4) (a5 : α5) (a6 : α6), narrow ret (.int r) = .int r → F (r, a1, a2, a3, a4, a5, a6) = some x → sx_G d κ nL k n pc' lv (.int r :: st) (w2 r a1 a2 a3 a4 a5 a6)) : sx_G d κ nL k n pc lv st0 ws := g_callSi (ρ := Int32 × α1 × α2 × α3 × α4 × α5 × α6) (w1 := fun z => w1 z.1 z.2.1 z.2.2.1 z.2.2.2.1 z.2.2.2.2.1 z.2.2.2.2.2.1 z.2.2.2.2.2.2) (w2 := fun z => w2 z.1 z.2.1 z.2.2.1 z.2.2.2.1 z.2.2.2.2.1 z.2.2.2.2.2.1 z.2.2.2.2.2.2) (rv := fun z => z.1) X lk hd hp hst hnp hsum hrm isC hnd hC hf (fun l z h0 => ct l z.1 z.2.1 z.2.2.1 z.2.2.2.1 z.2.2.2.2.1 z.2.2.2.2.2.1 z.2.2.2.2.2.2 h0) (fun z => hm z.1 z.2.1 z.2.2.1 z.2.2.2.1 z.2.2.2.2.1 z.2.2.2.2.2.1 z.2.2.2.2.2.2) (fun z => hw z.1 z.2.1 z.2.2.1 z.2.2.2.1 z.2.2.2.2.1 z.2.2.2.2.2.1 z.2.2.2.2.2.2) (fun z => K z.1 z.2.1 z.2.2.1 z.2.2.2.1 z.2.2.2.2.1 z.2.2.2.2.2.1 z.2.2.2.2.2.2)
theorem g_callSi7 (X : sx_X d κ cc nL own rm) {index : Nat} {y : MethodName} {bytes : ByteArray} {mL : Nat} {ret : FieldType} {np h : Nat} {As : List Value} {α1 : Type} {α2 : Type} {α3 : Type} {α4 : Type} {α5 : Type} {α6 : Type} {α7 : Type} {σ : Type} {o : Option (Int32 × α1 × α2 × α3 × α4 × α5 × α6 × α7)} {F : Int32 × α1 × α2 × α3 × α4 × α5 × α6 × α7 → Option σ} {x : σ} {wc : va_W} {w1 w2 : Int32 → α1 → α2 → α3 → α4 → α5 → α6 → α7 → va_W} (lk : sx_lkS own index y bytes mL (some ret) np) (hd : decode cc pc = .ok (.invokestatic index, 3)) (hp : pc + 3 = pc') (hst : st0 = As.reverse ++ st) (hnp : As.length = np) (hsum : (st.map fun v => v.category).sum ≤ 8) (hrm : h + 1 ≤ rm.frames ∧ 8 + (mL + 11) + 40 * h ≤ rm.locals ∧ k ≤ rm.cells ∧ n ≤ rm.slots) (isC : List Nat) (hnd : va_nd isC = true) (hC : isC.map (fun i => ws[i]?) = wc.map some) (hf : o.bind F = some x) (ct : ∀ (l : Launch) (r : Int32) (a1 : α1) (a2 : α2) (a3 : α3) (a4 : α4) (a5 : α5) (a6 : α6) (a7 : α7), o = some (r, a1, a2, a3, a4, a5, a6, a7) → sx_I l d y bytes mL ret h As wc (w1 r a1 a2 a3 a4 a5 a6 a7) r) (hm : ∀ (r : Int32) (a1 : α1) (a2 : α2) (a3 : α3) (a4 : α4) (a5 : α5) (a6 : α6) (a7 : α7), (w1 r a1 a2 a3 a4 a5 a6 a7).map Prod.fst = wc.map Prod.fst) (hw : ∀ (r : Int32) (a1 : α1) (a2 : α2) (a3 : α3) (a4 : α4) (a5 : α5) (a6 : α6) (a7 : α7), sx_put ws isC (w1 r a1 a2 a3 a4 a5 a6 a7) = w2 r a1 a2 a3 a4 a5 a6 a7) (K : ∀ (r : Int32) (a1 : α1) (a2 : α2) (a3 : α3) (a4 : α4) (a5 : α5) (a6 : α6) (a7 : α7), narrow ret (.int r) = .int r → F (r, a1, a2, a3, a4, a5, a6, a7) = some x → sx_G d κ nL k n pc' lv (.int r :: st) (w2 r a1 a2 a3 a4 a5 a6 a7)) : sx_G d κ nL k n pc lv st0 ws := g_callSi (ρ := Int32 × α1 × α2 × α3 × α4 × α5 × α6 × α7) (w1 := fun z => w1 z.1 z.2.1 z.2.2.1 z.2.2.2.1 z.2.2.2.2.1 z.2.2.2.2.2.1 z.2.2.2.2.2.2.1 z.2.2.2.2.2.2.2) (w2 := fun z => w2 z.1 z.2.1 z.2.2.1 z.2.2.2.1 z.2.2.2.2.1 z.2.2.2.2.2.1 z.2.2.2.2.2.2.1 z.2.2.2.2.2.2.2) (rv := fun z => z.1) X lk hd hp hst hnp hsum hrm isC hnd hC hf (fun l z h0 => ct l z.1 z.2.1 z.2.2.1 z.2.2.2.1 z.2.2.2.2.1 z.2.2.2.2.2.1 z.2.2.2.2.2.2.1 z.2.2.2.2.2.2.2 h0) (fun z => hm z.1 z.2.1 z.2.2.1 z.2.2.2.1 z.2.2.2.2.1 z.2.2.2.2.2.1 z.2.2.2.2.2.2.1 z.2.2.2.2.2.2.2) (fun z => hw z.1 z.2.1 z.2.2.1 z.2.2.2.1 z.2.2.2.2.1 z.2.2.2.2.2.1 z.2.2.2.2.2.2.1 z.2.2.2.2.2.2.2) (fun z => K z.1 z.2.1 z.2.2.1 z.2.2.2.1 z.2.2.2.2.1 z.2.2.2.2.2.1 z.2.2.2.2.2.2.1 z.2.2.2.2.2.2.2)
theorem g_callSi8 (X : sx_X d κ cc nL own rm) {index : Nat} {y : MethodName} {bytes : ByteArray} {mL : Nat} {ret : FieldType} {np h : Nat} {As : List Value} {α1 : Type} {α2 : Type} {α3 : Type} {α4 : Type} {α5 : Type} {α6 : Type} {α7 : Type} {α8 : Type} {σ : Type} {o : Option (Int32 × α1 × α2 × α3 × α4 × α5 × α6 × α7 × α8)} {F : Int32 × α1 × α2 × α3 × α4 × α5 × α6 × α7 × α8 → Option σ} {x : σ} {wc : va_W} {w1 w2 : Int32 → α1 → α2 → α3 → α4 → α5 → α6 → α7 → α8 → va_W} (lk : sx_lkS own index y bytes mL (some ret) np) (hd : decode cc pc = .ok (.invokestatic index, 3)) (hp : pc + 3 = pc') (hst : st0 = As.reverse ++ st) (hnp : As.length = np) (hsum : (st.map fun v => v.category).sum ≤ 8) (hrm : h + 1 ≤ rm.frames ∧ 8 + (mL + 11) + 40 * h ≤ rm.locals ∧ k ≤ rm.cells ∧ n ≤ rm.slots) (isC : List Nat) (hnd : va_nd isC = true) (hC : isC.map (fun i => ws[i]?) = wc.map some) (hf : o.bind F = some x) (ct : ∀ (l : Launch) (r : Int32) (a1 : α1) (a2 : α2) (a3 : α3) (a4 : α4) (a5 : α5) (a6 : α6) (a7 : α7) (a8 : α8), o = some (r, a1, a2, a3, a4, a5, a6, a7, a8) → sx_I l d y bytes mL ret h As wc (w1 r a1 a2 a3 a4 a5 a6 a7 a8) r) (hm : ∀ (r : Int32) (a1 : α1) (a2 : α2) (a3 : α3) (a4 : α4) (a5 : α5) (a6 : α6) (a7 : α7) (a8 : α8), (w1 r a1 a2 a3 a4 a5 a6 a7 a8).map Prod.fst = wc.map Prod.fst) (hw : ∀ (r : Int32) (a1 : α1) (a2 : α2) (a3 : α3) (a4 : α4) (a5 : α5) (a6 : α6) (a7 : α7) (a8 : α8), sx_put ws isC (w1 r a1 a2 a3 a4 a5 a6 a7 a8) = w2 r a1 a2 a3 a4 a5 a6 a7 a8) (K : ∀ (r : Int32) (a1 : α1) (a2 : α2) (a3 : α3) (a4 : α4) (a5 : α5) (a6 : α6) (a7 : α7) (a8 : α8), narrow ret (.int r) = .int r → F (r, a1, a2, a3, a4, a5, a6, a7, a8) = some x → sx_G d κ nL k n pc' lv (.int r :: st) (w2 r a1 a2 a3 a4 a5 a6 a7 a8)) : sx_G d κ nL k n pc lv st0 ws := g_callSi (ρ := Int32 × α1 × α2 × α3 × α4 × α5 × α6 × α7 × α8) (w1 := fun z => w1 z.1 z.2.1 z.2.2.1 z.2.2.2.1 z.2.2.2.2.1 z.2.2.2.2.2.1 z.2.2.2.2.2.2.1 z.2.2.2.2.2.2.2.1 z.2.2.2.2.2.2.2.2) (w2 := fun z => w2 z.1 z.2.1 z.2.2.1 z.2.2.2.1 z.2.2.2.2.1 z.2.2.2.2.2.1 z.2.2.2.2.2.2.1 z.2.2.2.2.2.2.2.1 z.2.2.2.2.2.2.2.2) (rv := fun z => z.1) X lk hd hp hst hnp hsum hrm isC hnd hC hf (fun l z h0 => ct l z.1 z.2.1 z.2.2.1 z.2.2.2.1 z.2.2.2.2.1 z.2.2.2.2.2.1 z.2.2.2.2.2.2.1 z.2.2.2.2.2.2.2.1 z.2.2.2.2.2.2.2.2 h0) (fun z => hm z.1 z.2.1 z.2.2.1 z.2.2.2.1 z.2.2.2.2.1 z.2.2.2.2.2.1 z.2.2.2.2.2.2.1 z.2.2.2.2.2.2.2.1 z.2.2.2.2.2.2.2.2) (fun z => hw z.1 z.2.1 z.2.2.1 z.2.2.2.1 z.2.2.2.2.1 z.2.2.2.2.2.1 z.2.2.2.2.2.2.1 z.2.2.2.2.2.2.2.1 z.2.2.2.2.2.2.2.2) (fun z => K z.1 z.2.1 z.2.2.1 z.2.2.2.1 z.2.2.2.2.1 z.2.2.2.2.2.1 z.2.2.2.2.2.2.1 z.2.2.2.2.2.2.2.1 z.2.2.2.2.2.2.2.2)
theorem g_callSv (X : sx_X d κ cc nL own rm) {index : Nat} {y : MethodName} {bytes : ByteArray} {mL : Nat} {np h : Nat} {As : List Value} {ρ σ : Type} {o : Option ρ} {F : ρ → Option σ} {x : σ} {wc : va_W} {w1 w2 : ρ → va_W} (lk : sx_lkS own index y bytes mL none np) (hd : decode cc pc = .ok (.invokestatic index, 3)) (hp : pc + 3 = pc') (hst : st0 = As.reverse ++ st) (hnp : As.length = np) (hsum : (st.map fun v => v.category).sum ≤ 8) (hrm : h + 1 ≤ rm.frames ∧ 8 + (mL + 11) + 40 * h ≤ rm.locals ∧ k ≤ rm.cells ∧ n ≤ rm.slots) (isC : List Nat) (hnd : va_nd isC = true) (hC : isC.map (fun i => ws[i]?) = wc.map some) (hf : o.bind F = some x) (ct : ∀ (l : Launch) (y0 : ρ), o = some y0 → sx_V l d y bytes mL h As wc (w1 y0)) (hm : ∀ y0, (w1 y0).map Prod.fst = wc.map Prod.fst) (hw : ∀ y0, sx_put ws isC (w1 y0) = w2 y0) (K : ∀ y0, F y0 = some x → sx_G d κ nL k n pc' lv (st) (w2 y0)) : sx_G d κ nL k n pc lv st0 ws := by
  obtain ⟨y0, h1, h2⟩ := sx_bd hf
  obtain ⟨⟨p, l, e, R, s, m, args, below, meth, c⟩, A, Q⟩ := κ
  have hc := ct l y0 h1
  subst hp
  subst hst
  intro H locs ls hP hD hS hl
  have hPc : va_P d.1 vwCl wc H := hP.sub isC (by
    have h9 := congrArg (fun x : List (Option (Nat × va_E)) => x.filterMap id) hC
    simpa [List.filterMap_map, Function.comp_def] using h9)
  have hDc : va_D A wc := hD.sub isC hnd hC
  have hFc := va_free (wc := wc) hD hS X.2.2.2.2.2.2.1 isC hC
  refine va_callv (sx_runS X lk hd hnp hsum hrm (hc H.size) hPc (hDc.weaken (fun _ _ _ _ => trivial)) hl) hS (fun q _ h => hFc q h) hFc (fun u t H1 locs ht hvm hw0 hB hz1 hk1 hS => ?_)
  clear hw0
  rw [ht] at hB
  obtain ⟨hP2, hD2⟩ := sx_put_P hP hD isC hC (hm y0) hk1 hB
  rw [hw] at hP2 hD2
  exact K y0 h2 H1 locs ls hP2 hD2 hS hl
theorem g_callSv0 (X : sx_X d κ cc nL own rm) {index : Nat} {y : MethodName} {bytes : ByteArray} {mL : Nat} {np h : Nat} {As : List Value}  {σ : Type} {o : Option (Unit)} {F : Unit → Option σ} {x : σ} {wc : va_W} {w1 w2 : Unit → va_W} (lk : sx_lkS own index y bytes mL none np) (hd : decode cc pc = .ok (.invokestatic index, 3)) (hp : pc + 3 = pc') (hst : st0 = As.reverse ++ st) (hnp : As.length = np) (hsum : (st.map fun v => v.category).sum ≤ 8) (hrm : h + 1 ≤ rm.frames ∧ 8 + (mL + 11) + 40 * h ≤ rm.locals ∧ k ≤ rm.cells ∧ n ≤ rm.slots) (isC : List Nat) (hnd : va_nd isC = true) (hC : isC.map (fun i => ws[i]?) = wc.map some) (hf : o.bind F = some x) (ct : ∀ (l : Launch) (u : Unit), o = some u → sx_V l d y bytes mL h As wc (w1 u)) (hm : ∀ (u : Unit), (w1 u).map Prod.fst = wc.map Prod.fst) (hw : ∀ (u : Unit), sx_put ws isC (w1 u) = w2 u) (K : ∀ (u : Unit), F u = some x → sx_G d κ nL k n pc' lv (st) (w2 u)) : sx_G d κ nL k n pc lv st0 ws := g_callSv (ρ := Unit) (w1 := fun z => w1 z) (w2 := fun z => w2 z) X lk hd hp hst hnp hsum hrm isC hnd hC hf (fun l z h0 => ct l z h0) (fun z => hm z) (fun z => hw z) (fun z => K z)
theorem g_callSv1 (X : sx_X d κ cc nL own rm) {index : Nat} {y : MethodName} {bytes : ByteArray} {mL : Nat} {np h : Nat} {As : List Value} {α1 : Type} {σ : Type} {o : Option (α1)} {F : α1 → Option σ} {x : σ} {wc : va_W} {w1 w2 : α1 → va_W} (lk : sx_lkS own index y bytes mL none np) (hd : decode cc pc = .ok (.invokestatic index, 3)) (hp : pc + 3 = pc') (hst : st0 = As.reverse ++ st) (hnp : As.length = np) (hsum : (st.map fun v => v.category).sum ≤ 8) (hrm : h + 1 ≤ rm.frames ∧ 8 + (mL + 11) + 40 * h ≤ rm.locals ∧ k ≤ rm.cells ∧ n ≤ rm.slots) (isC : List Nat) (hnd : va_nd isC = true) (hC : isC.map (fun i => ws[i]?) = wc.map some) (hf : o.bind F = some x) (ct : ∀ (l : Launch) (a1 : α1), o = some a1 → sx_V l d y bytes mL h As wc (w1 a1)) (hm : ∀ (a1 : α1), (w1 a1).map Prod.fst = wc.map Prod.fst) (hw : ∀ (a1 : α1), sx_put ws isC (w1 a1) = w2 a1) (K : ∀ (a1 : α1), F a1 = some x → sx_G d κ nL k n pc' lv (st) (w2 a1)) : sx_G d κ nL k n pc lv st0 ws := g_callSv (ρ := α1) (w1 := fun z => w1 z) (w2 := fun z => w2 z) X lk hd hp hst hnp hsum hrm isC hnd hC hf (fun l z h0 => ct l z h0) (fun z => hm z) (fun z => hw z) (fun z => K z)
theorem g_callSv2 (X : sx_X d κ cc nL own rm) {index : Nat} {y : MethodName} {bytes : ByteArray} {mL : Nat} {np h : Nat} {As : List Value} {α1 : Type} {α2 : Type} {σ : Type} {o : Option (α1 × α2)} {F : α1 × α2 → Option σ} {x : σ} {wc : va_W} {w1 w2 : α1 → α2 → va_W} (lk : sx_lkS own index y bytes mL none np) (hd : decode cc pc = .ok (.invokestatic index, 3)) (hp : pc + 3 = pc') (hst : st0 = As.reverse ++ st) (hnp : As.length = np) (hsum : (st.map fun v => v.category).sum ≤ 8) (hrm : h + 1 ≤ rm.frames ∧ 8 + (mL + 11) + 40 * h ≤ rm.locals ∧ k ≤ rm.cells ∧ n ≤ rm.slots) (isC : List Nat) (hnd : va_nd isC = true) (hC : isC.map (fun i => ws[i]?) = wc.map some) (hf : o.bind F = some x) (ct : ∀ (l : Launch) (a1 : α1) (a2 : α2), o = some (a1, a2) → sx_V l d y bytes mL h As wc (w1 a1 a2)) (hm : ∀ (a1 : α1) (a2 : α2), (w1 a1 a2).map Prod.fst = wc.map Prod.fst) (hw : ∀ (a1 : α1) (a2 : α2), sx_put ws isC (w1 a1 a2) = w2 a1 a2) (K : ∀ (a1 : α1) (a2 : α2), F (a1, a2) = some x → sx_G d κ nL k n pc' lv (st) (w2 a1 a2)) : sx_G d κ nL k n pc lv st0 ws := g_callSv (ρ := α1 × α2) (w1 := fun z => w1 z.1 z.2) (w2 := fun z => w2 z.1 z.2) X lk hd hp hst hnp hsum hrm isC hnd hC hf (fun l z h0 => ct l z.1 z.2 h0) (fun z => hm z.1 z.2) (fun z => hw z.1 z.2) (fun z => K z.1 z.2)
theorem g_callSv3 (X : sx_X d κ cc nL own rm) {index : Nat} {y : MethodName} {bytes : ByteArray} {mL : Nat} {np h : Nat} {As : List Value} {α1 : Type} {α2 : Type} {α3 : Type} {σ : Type} {o : Option (α1 × α2 × α3)} {F : α1 × α2 × α3 → Option σ} {x : σ} {wc : va_W} {w1 w2 : α1 → α2 → α3 → va_W} (lk : sx_lkS own index y bytes mL none np) (hd : decode cc pc = .ok (.invokestatic index, 3)) (hp : pc + 3 = pc') (hst : st0 = As.reverse ++ st) (hnp : As.length = np) (hsum : (st.map fun v => v.category).sum ≤ 8) (hrm : h + 1 ≤ rm.frames ∧ 8 + (mL + 11) + 40 * h ≤ rm.locals ∧ k ≤ rm.cells ∧ n ≤ rm.slots) (isC : List Nat) (hnd : va_nd isC = true) (hC : isC.map (fun i => ws[i]?) = wc.map some) (hf : o.bind F = some x) (ct : ∀ (l : Launch) (a1 : α1) (a2 : α2) (a3 : α3), o = some (a1, a2, a3) → sx_V l d y bytes mL h As wc (w1 a1 a2 a3)) (hm : ∀ (a1 : α1) (a2 : α2) (a3 : α3), (w1 a1 a2 a3).map Prod.fst = wc.map Prod.fst) (hw : ∀ (a1 : α1) (a2 : α2) (a3 : α3), sx_put ws isC (w1 a1 a2 a3) = w2 a1 a2 a3) (K : ∀ (a1 : α1) (a2 : α2) (a3 : α3), F (a1, a2, a3) = some x → sx_G d κ nL k n pc' lv (st) (w2 a1 a2 a3)) : sx_G d κ nL k n pc lv st0 ws := g_callSv (ρ := α1 × α2 × α3) (w1 := fun z => w1 z.1 z.2.1 z.2.2) (w2 := fun z => w2 z.1 z.2.1 z.2.2) X lk hd hp hst hnp hsum hrm isC hnd hC hf (fun l z h0 => ct l z.1 z.2.1 z.2.2 h0) (fun z => hm z.1 z.2.1 z.2.2) (fun z => hw z.1 z.2.1 z.2.2) (fun z => K z.1 z.2.1 z.2.2)
theorem g_callSv4 (X : sx_X d κ cc nL own rm) {index : Nat} {y : MethodName} {bytes : ByteArray} {mL : Nat} {np h : Nat} {As : List Value} {α1 : Type} {α2 : Type} {α3 : Type} {α4 : Type} {σ : Type} {o : Option (α1 × α2 × α3 × α4)} {F : α1 × α2 × α3 × α4 → Option σ} {x : σ} {wc : va_W} {w1 w2 : α1 → α2 → α3 → α4 → va_W} (lk : sx_lkS own index y bytes mL none np) (hd : decode cc pc = .ok (.invokestatic index, 3)) (hp : pc + 3 = pc') (hst : st0 = As.reverse ++ st) (hnp : As.length = np) (hsum : (st.map fun v => v.category).sum ≤ 8) (hrm : h + 1 ≤ rm.frames ∧ 8 + (mL + 11) + 40 * h ≤ rm.locals ∧ k ≤ rm.cells ∧ n ≤ rm.slots) (isC : List Nat) (hnd : va_nd isC = true) (hC : isC.map (fun i => ws[i]?) = wc.map some) (hf : o.bind F = some x) (ct : ∀ (l : Launch) (a1 : α1) (a2 : α2) (a3 : α3) (a4 : α4), o = some (a1, a2, a3, a4) → sx_V l d y bytes mL h As wc (w1 a1 a2 a3 a4)) (hm : ∀ (a1 : α1) (a2 : α2) (a3 : α3) (a4 : α4), (w1 a1 a2 a3 a4).map Prod.fst = wc.map Prod.fst) (hw : ∀ (a1 : α1) (a2 : α2) (a3 : α3) (a4 : α4), sx_put ws isC (w1 a1 a2 a3 a4) = w2 a1 a2 a3 a4) (K : ∀ (a1 : α1) (a2 : α2) (a3 : α3) (a4 : α4), F (a1, a2, a3, a4) = some x → sx_G d κ nL k n pc' lv (st) (w2 a1 a2 a3 a4)) : sx_G d κ nL k n pc lv st0 ws := g_callSv (ρ := α1 × α2 × α3 × α4) (w1 := fun z => w1 z.1 z.2.1 z.2.2.1 z.2.2.2) (w2 := fun z => w2 z.1 z.2.1 z.2.2.1 z.2.2.2) X lk hd hp hst hnp hsum hrm isC hnd hC hf (fun l z h0 => ct l z.1 z.2.1 z.2.2.1 z.2.2.2 h0) (fun z => hm z.1 z.2.1 z.2.2.1 z.2.2.2) (fun z => hw z.1 z.2.1 z.2.2.1 z.2.2.2) (fun z => K z.1 z.2.1 z.2.2.1 z.2.2.2)
theorem g_callSv5 (X : sx_X d κ cc nL own rm) {index : Nat} {y : MethodName} {bytes : ByteArray} {mL : Nat} {np h : Nat} {As : List Value} {α1 : Type} {α2 : Type} {α3 : Type} {α4 : Type} {α5 : Type} {σ : Type} {o : Option (α1 × α2 × α3 × α4 × α5)} {F : α1 × α2 × α3 × α4 × α5 → Option σ} {x : σ} {wc : va_W} {w1 w2 : α1 → α2 → α3 → α4 → α5 → va_W} (lk : sx_lkS own index y bytes mL none np) (hd : decode cc pc = .ok (.invokestatic index, 3)) (hp : pc + 3 = pc') (hst : st0 = As.reverse ++ st) (hnp : As.length = np) (hsum : (st.map fun v => v.category).sum ≤ 8) (hrm : h + 1 ≤ rm.frames ∧ 8 + (mL + 11) + 40 * h ≤ rm.locals ∧ k ≤ rm.cells ∧ n ≤ rm.slots) (isC : List Nat) (hnd : va_nd isC = true) (hC : isC.map (fun i => ws[i]?) = wc.map some) (hf : o.bind F = some x) (ct : ∀ (l : Launch) (a1 : α1) (a2 : α2) (a3 : α3) (a4 : α4) (a5 : α5), o = some (a1, a2, a3, a4, a5) → sx_V l d y bytes mL h As wc (w1 a1 a2 a3 a4 a5)) (hm : ∀ (a1 : α1) (a2 : α2) (a3 : α3) (a4 : α4) (a5 : α5), (w1 a1 a2 a3 a4 a5).map Prod.fst = wc.map Prod.fst) (hw : ∀ (a1 : α1) (a2 : α2) (a3 : α3) (a4 : α4) (a5 : α5), sx_put ws isC (w1 a1 a2 a3 a4 a5) = w2 a1 a2 a3 a4 a5) (K : ∀ (a1 : α1) (a2 : α2) (a3 : α3) (a4 : α4) (a5 : α5), F (a1, a2, a3, a4, a5) = some x → sx_G d κ nL k n pc' lv (st) (w2 a1 a2 a3 a4 a5)) : sx_G d κ nL k n pc lv st0 ws := g_callSv (ρ := α1 × α2 × α3 × α4 × α5) (w1 := fun z => w1 z.1 z.2.1 z.2.2.1 z.2.2.2.1 z.2.2.2.2) (w2 := fun z => w2 z.1 z.2.1 z.2.2.1 z.2.2.2.1 z.2.2.2.2) X lk hd hp hst hnp hsum hrm isC hnd hC hf (fun l z h0 => ct l z.1 z.2.1 z.2.2.1 z.2.2.2.1 z.2.2.2.2 h0) (fun z => hm z.1 z.2.1 z.2.2.1 z.2.2.2.1 z.2.2.2.2) (fun z => hw z.1 z.2.1 z.2.2.1 z.2.2.2.1 z.2.2.2.2) (fun z => K z.1 z.2.1 z.2.2.1 z.2.2.2.1 z.2.2.2.2)
theorem g_callSv6 (X : sx_X d κ cc nL own rm) {index : Nat} {y : MethodName} {bytes : ByteArray} {mL : Nat} {np h : Nat} {As : List Value} {α1 : Type} {α2 : Type} {α3 : Type} {α4 : Type} {α5 : Type} {α6 : Type} {σ : Type} {o : Option (α1 × α2 × α3 × α4 × α5 × α6)} {F : α1 × α2 × α3 × α4 × α5 × α6 → Option σ} {x : σ} {wc : va_W} {w1 w2 : α1 → α2 → α3 → α4 → α5 → α6 → va_W} (lk : sx_lkS own index y bytes mL none np) (hd : decode cc pc = .ok (.invokestatic index, 3)) (hp : pc + 3 = pc') (hst : st0 = As.reverse ++ st) (hnp : As.length = np) (hsum : (st.map fun v => v.category).sum ≤ 8) (hrm : h + 1 ≤ rm.frames ∧ 8 + (mL + 11) + 40 * h ≤ rm.locals ∧ k ≤ rm.cells ∧ n ≤ rm.slots) (isC : List Nat) (hnd : va_nd isC = true) (hC : isC.map (fun i => ws[i]?) = wc.map some) (hf : o.bind F = some x) (ct : ∀ (l : Launch) (a1 : α1) (a2 : α2) (a3 : α3) (a4 : α4) (a5 : α5) (a6 : α6), o = some (a1, a2, a3, a4, a5, a6) → sx_V l d y bytes mL h As wc (w1 a1 a2 a3 a4 a5 a6)) (hm : ∀ (a1 : α1) (a2 : α2) (a3 : α3) (a4 : α4) (a5 : α5) (a6 : α6), (w1 a1 a2 a3 a4 a5 a6).map Prod.fst = wc.map Prod.fst) (hw : ∀ (a1 : α1) (a2 : α2) (a3 : α3) (a4 : α4) (a5 : α5) (a6 : α6), sx_put ws isC (w1 a1 a2 a3 a4 a5 a6) = w2 a1 a2 a3 a4 a5 a6) (K : ∀ (a1 : α1) (a2 : α2) (a3 : α3) (a4 : α4) (a5 : α5) (a6 : α6), F (a1, a2, a3, a4, a5, a6) = some x → sx_G d κ nL k n pc' lv (st) (w2 a1 a2 a3 a4 a5 a6)) : sx_G d κ nL k n pc lv st0 ws := g_callSv (ρ := α1 × α2 × α3 × α4 × α5 × α6) (w1 := fun z => w1 z.1 z.2.1 z.2.2.1 z.2.2.2.1 z.2.2.2.2.1 z.2.2.2.2.2) (w2 := fun z => w2 z.1 z.2.1 z.2.2.1 z.2.2.2.1 z.2.2.2.2.1 z.2.2.2.2.2) X lk hd hp hst hnp hsum hrm isC hnd hC hf (fun l z h0 => ct l z.1 z.2.1 z.2.2.1 z.2.2.2.1 z.2.2.2.2.1 z.2.2.2.2.2 h0) (fun z => hm z.1 z.2.1 z.2.2.1 z.2.2.2.1 z.2.2.2.2.1 z.2.2.2.2.2) (fun z => hw z.1 z.2.1 z.2.2.1 z.2.2.2.1 z.2.2.2.2.1 z.2.2.2.2.2) (fun z => K z.1 z.2.1 z.2.2.1 z.2.2.2.1 z.2.2.2.2.1 z.2.2.2.2.2)
theorem g_callSv7 (X : sx_X d κ cc nL own rm) {index : Nat} {y : MethodName} {bytes : ByteArray} {mL : Nat} {np h : Nat} {As : List Value} {α1 : Type} {α2 : Type} {α3 : Type} {α4 : Type} {α5 : Type} {α6 : Type} {α7 : Type} {σ : Type} {o : Option (α1 × α2 × α3 × α4 × α5 × α6 × α7)} {F : α1 × α2 × α3 × α4 × α5 × α6 × α7 → Option σ} {x : σ} {wc : va_W} {w1 w2 : α1 → α2 → α3 → α4 → α5 → α6 → α7 → va_W} (lk : sx_lkS own index y bytes mL none np) (hd : decode cc pc = .ok (.invokestatic index, 3)) (hp : pc + 3 = pc') (hst : st0 = As.reverse ++ st) (hnp : As.length = np) (hsum : (st.map fun v => v.category).sum ≤ 8) (hrm : h + 1 ≤ rm.frames ∧ 8 + (mL + 11) + 40 * h ≤ rm.locals ∧ k ≤ rm.cells ∧ n ≤ rm.slots) (isC : List Nat) (hnd : va_nd isC = true) (hC : isC.map (fun i => ws[i]?) = wc.map some) (hf : o.bind F = some x) (ct : ∀ (l : Launch) (a1 : α1) (a2 : α2) (a3 : α3) (a4 : α4) (a5 : α5) (a6 : α6) (a7 : α7), o = some (a1, a2, a3, a4, a5, a6, a7) → sx_V l d y bytes mL h As wc (w1 a1 a2 a3 a4 a5 a6 a7)) (hm : ∀ (a1 : α1) (a2 : α2) (a3 : α3) (a4 : α4) (a5 : α5) (a6 : α6) (a7 : α7), (w1 a1 a2 a3 a4 a5 a6 a7).map Prod.fst = wc.map Prod.fst) (hw : ∀ (a1 : α1) (a2 : α2) (a3 : α3) (a4 : α4) (a5 : α5) (a6 : α6) (a7 : α7), sx_put ws isC (w1 a1 a2 a3 a4 a5 a6 a7) = w2 a1 a2 a3 a4 a5 a6 a7) (K : ∀ (a1 : α1) (a2 : α2) (a3 : α3) (a4 : α4) (a5 : α5) (a6 : α6) (a7 : α7), F (a1, a2, a3, a4, a5, a6, a7) = some x → sx_G d κ nL k n pc' lv (st) (w2 a1 a2 a3 a4 a5 a6 a7)) : sx_G d κ nL k n pc lv st0 ws := g_callSv (ρ := α1 × α2 × α3 × α4 × α5 × α6 × α7) (w1 := fun z => w1 z.1 z.2.1 z.2.2.1 z.2.2.2.1 z.2.2.2.2.1 z.2.2.2.2.2.1 z.2.2.2.2.2.2) (w2 := fun z => w2 z.1 z.2.1 z.2.2.1 z.2.2.2.1 z.2.2.2.2.1 z.2.2.2.2.2.1 z.2.2.2.2.2.2) X lk hd hp hst hnp hsum hrm isC hnd hC hf (fun l z h0 => ct l z.1 z.2.1 z.2.2.1 z.2.2.2.1 z.2.2.2.2.1 z.2.2.2.2.2.1 z.2.2.2.2.2.2 h0) (fun z => hm z.1 z.2.1 z.2.2.1 z.2.2.2.1 z.2.2.2.2.1 z.2.2.2.2.2.1 z.2.2.2.2.2.2) (fun z => hw z.1 z.2.1 z.2.2.1 z.2.2.2.1 z.2.2.2.2.1 z.2.2.2.2.2.1 z.2.2.2.2.2.2) (fun z => K z.1 z.2.1 z.2.2.1 z.2.2.2.1 z.2.2.2.2.1 z.2.2.2.2.2.1 z.2.2.2.2.2.2)
theorem g_callSv8 (X : sx_X d κ cc nL own rm) {index : Nat} {y : MethodName} {bytes : ByteArray} {mL : Nat} {np h : Nat} {As : List Value} {α1 : Type} {α2 : Type} {α3 : Type} {α4 : Type} {α5 : Type} {α6 : Type} {α7 : Type} {α8 : Type} {σ : Type} {o : Option (α1 × α2 × α3 × α4 × α5 × α6 × α7 × α8)} {F : α1 × α2 × α3 × α4 × α5 × α6 × α7 × α8 → Option σ} {x : σ} {wc : va_W} {w1 w2 : α1 → α2 → α3 → α4 → α5 → α6 → α7 → α8 → va_W} (lk : sx_lkS own index y bytes mL none np) (hd : decode cc pc = .ok (.invokestatic index, 3)) (hp : pc + 3 = pc') (hst : st0 = As.reverse ++ st) (hnp : As.length = np) (hsum : (st.map fun v => v.category).sum ≤ 8) (hrm : h + 1 ≤ rm.frames ∧ 8 + (mL + 11) + 40 * h ≤ rm.locals ∧ k ≤ rm.cells ∧ n ≤ rm.slots) (isC : List Nat) (hnd : va_nd isC = true) (hC : isC.map (fun i => ws[i]?) = wc.map some) (hf : o.bind F = some x) (ct : ∀ (l : Launch) (a1 : α1) (a2 : α2) (a3 : α3) (a4 : α4) (a5 : α5) (a6 : α6) (a7 : α7) (a8 : α8), o = some (a1, a2, a3, a4, a5, a6, a7, a8) → sx_V l d y bytes mL h As wc (w1 a1 a2 a3 a4 a5 a6 a7 a8)) (hm : ∀ (a1 : α1) (a2 : α2) (a3 : α3) (a4 : α4) (a5 : α5) (a6 : α6) (a7 : α7) (a8 : α8), (w1 a1 a2 a3 a4 a5 a6 a7 a8).map Prod.fst = wc.map Prod.fst) (hw : ∀ (a1 : α1) (a2 : α2) (a3 : α3) (a4 : α4) (a5 : α5) (a6 : α6) (a7 : α7) (a8 : α8), sx_put ws isC (w1 a1 a2 a3 a4 a5 a6 a7 a8) = w2 a1 a2 a3 a4 a5 a6 a7 a8) (K : ∀ (a1 : α1) (a2 : α2) (a3 : α3) (a4 : α4) (a5 : α5) (a6 : α6) (a7 : α7) (a8 : α8), F (a1, a2, a3, a4, a5, a6, a7, a8) = some x → sx_G d κ nL k n pc' lv (st) (w2 a1 a2 a3 a4 a5 a6 a7 a8)) : sx_G d κ nL k n pc lv st0 ws := g_callSv (ρ := α1 × α2 × α3 × α4 × α5 × α6 × α7 × α8) (w1 := fun z => w1 z.1 z.2.1 z.2.2.1 z.2.2.2.1 z.2.2.2.2.1 z.2.2.2.2.2.1 z.2.2.2.2.2.2.1 z.2.2.2.2.2.2.2) (w2 := fun z => w2 z.1 z.2.1 z.2.2.1 z.2.2.2.1 z.2.2.2.2.1 z.2.2.2.2.2.1 z.2.2.2.2.2.2.1 z.2.2.2.2.2.2.2) X lk hd hp hst hnp hsum hrm isC hnd hC hf (fun l z h0 => ct l z.1 z.2.1 z.2.2.1 z.2.2.2.1 z.2.2.2.2.1 z.2.2.2.2.2.1 z.2.2.2.2.2.2.1 z.2.2.2.2.2.2.2 h0) (fun z => hm z.1 z.2.1 z.2.2.1 z.2.2.2.1 z.2.2.2.2.1 z.2.2.2.2.2.1 z.2.2.2.2.2.2.1 z.2.2.2.2.2.2.2) (fun z => hw z.1 z.2.1 z.2.2.1 z.2.2.2.1 z.2.2.2.2.1 z.2.2.2.2.2.1 z.2.2.2.2.2.2.1 z.2.2.2.2.2.2.2) (fun z => K z.1 z.2.1 z.2.2.1 z.2.2.2.1 z.2.2.2.2.1 z.2.2.2.2.2.1 z.2.2.2.2.2.2.1 z.2.2.2.2.2.2.2)
theorem g_callSl (X : sx_X d κ cc nL own rm) {index : Nat} {y : MethodName} {bytes : ByteArray} {mL : Nat} {np h : Nat} {As : List Value} {ρ σ : Type} {o : Option ρ} {F : ρ → Option σ} {x : σ} {wc : va_W} {w1 w2 : ρ → va_W} {rv : ρ → Int64} (lk : sx_lkS own index y bytes mL (some .long) np) (hd : decode cc pc = .ok (.invokestatic index, 3)) (hp : pc + 3 = pc') (hst : st0 = As.reverse ++ st) (hnp : As.length = np) (hsum : (st.map fun v => v.category).sum ≤ 8) (hrm : h + 1 ≤ rm.frames ∧ 8 + (mL + 11) + 40 * h ≤ rm.locals ∧ k ≤ rm.cells ∧ n ≤ rm.slots) (isC : List Nat) (hnd : va_nd isC = true) (hC : isC.map (fun i => ws[i]?) = wc.map some) (hf : o.bind F = some x) (ct : ∀ (l : Launch) (y0 : ρ), o = some y0 → sx_L l d y bytes mL h As wc (w1 y0) (rv y0)) (hm : ∀ y0, (w1 y0).map Prod.fst = wc.map Prod.fst) (hw : ∀ y0, sx_put ws isC (w1 y0) = w2 y0) (K : ∀ y0, F y0 = some x → sx_G d κ nL k n pc' lv (.long (rv y0) :: st) (w2 y0)) : sx_G d κ nL k n pc lv st0 ws := by
  obtain ⟨y0, h1, h2⟩ := sx_bd hf
  obtain ⟨⟨p, l, e, R, s, m, args, below, meth, c⟩, A, Q⟩ := κ
  have hc := ct l y0 h1
  subst hp
  subst hst
  intro H locs ls hP hD hS hl
  have hPc : va_P d.1 vwCl wc H := hP.sub isC (by
    have h9 := congrArg (fun x : List (Option (Nat × va_E)) => x.filterMap id) hC
    simpa [List.filterMap_map, Function.comp_def] using h9)
  have hDc : va_D A wc := hD.sub isC hnd hC
  have hFc := va_free (wc := wc) hD hS X.2.2.2.2.2.2.1 isC hC
  refine va_calll (sx_runS X lk hd hnp hsum hrm (hc H.size) hPc (hDc.weaken (fun _ _ _ _ => trivial)) hl) hS (fun q _ h => hFc q h) hFc (fun r u t H1 locs ht hvm hw0 hB hz1 hk1 hS => ?_)
  subst hw0
  rw [ht] at hB
  obtain ⟨hP2, hD2⟩ := sx_put_P hP hD isC hC (hm y0) hk1 hB
  rw [hw] at hP2 hD2
  exact K y0 h2 H1 locs ls hP2 hD2 hS hl
theorem g_callSl0 (X : sx_X d κ cc nL own rm) {index : Nat} {y : MethodName} {bytes : ByteArray} {mL : Nat} {np h : Nat} {As : List Value}  {σ : Type} {o : Option (Int64)} {F : Int64 → Option σ} {x : σ} {wc : va_W} {w1 w2 : Int64 → va_W} (lk : sx_lkS own index y bytes mL (some .long) np) (hd : decode cc pc = .ok (.invokestatic index, 3)) (hp : pc + 3 = pc') (hst : st0 = As.reverse ++ st) (hnp : As.length = np) (hsum : (st.map fun v => v.category).sum ≤ 8) (hrm : h + 1 ≤ rm.frames ∧ 8 + (mL + 11) + 40 * h ≤ rm.locals ∧ k ≤ rm.cells ∧ n ≤ rm.slots) (isC : List Nat) (hnd : va_nd isC = true) (hC : isC.map (fun i => ws[i]?) = wc.map some) (hf : o.bind F = some x) (ct : ∀ (l : Launch) (r : Int64), o = some r → sx_L l d y bytes mL h As wc (w1 r) r) (hm : ∀ (r : Int64), (w1 r).map Prod.fst = wc.map Prod.fst) (hw : ∀ (r : Int64), sx_put ws isC (w1 r) = w2 r) (K : ∀ (r : Int64), F r = some x → sx_G d κ nL k n pc' lv (.long r :: st) (w2 r)) : sx_G d κ nL k n pc lv st0 ws := g_callSl (ρ := Int64) (w1 := fun z => w1 z) (w2 := fun z => w2 z) (rv := fun z => z) X lk hd hp hst hnp hsum hrm isC hnd hC hf (fun l z h0 => ct l z h0) (fun z => hm z) (fun z => hw z) (fun z => K z)
theorem g_callSl1 (X : sx_X d κ cc nL own rm) {index : Nat} {y : MethodName} {bytes : ByteArray} {mL : Nat} {np h : Nat} {As : List Value} {α1 : Type} {σ : Type} {o : Option (Int64 × α1)} {F : Int64 × α1 → Option σ} {x : σ} {wc : va_W} {w1 w2 : Int64 → α1 → va_W} (lk : sx_lkS own index y bytes mL (some .long) np) (hd : decode cc pc = .ok (.invokestatic index, 3)) (hp : pc + 3 = pc') (hst : st0 = As.reverse ++ st) (hnp : As.length = np) (hsum : (st.map fun v => v.category).sum ≤ 8) (hrm : h + 1 ≤ rm.frames ∧ 8 + (mL + 11) + 40 * h ≤ rm.locals ∧ k ≤ rm.cells ∧ n ≤ rm.slots) (isC : List Nat) (hnd : va_nd isC = true) (hC : isC.map (fun i => ws[i]?) = wc.map some) (hf : o.bind F = some x) (ct : ∀ (l : Launch) (r : Int64) (a1 : α1), o = some (r, a1) → sx_L l d y bytes mL h As wc (w1 r a1) r) (hm : ∀ (r : Int64) (a1 : α1), (w1 r a1).map Prod.fst = wc.map Prod.fst) (hw : ∀ (r : Int64) (a1 : α1), sx_put ws isC (w1 r a1) = w2 r a1) (K : ∀ (r : Int64) (a1 : α1), F (r, a1) = some x → sx_G d κ nL k n pc' lv (.long r :: st) (w2 r a1)) : sx_G d κ nL k n pc lv st0 ws := g_callSl (ρ := Int64 × α1) (w1 := fun z => w1 z.1 z.2) (w2 := fun z => w2 z.1 z.2) (rv := fun z => z.1) X lk hd hp hst hnp hsum hrm isC hnd hC hf (fun l z h0 => ct l z.1 z.2 h0) (fun z => hm z.1 z.2) (fun z => hw z.1 z.2) (fun z => K z.1 z.2)
theorem g_callSl2 (X : sx_X d κ cc nL own rm) {index : Nat} {y : MethodName} {bytes : ByteArray} {mL : Nat} {np h : Nat} {As : List Value} {α1 : Type} {α2 : Type} {σ : Type} {o : Option (Int64 × α1 × α2)} {F : Int64 × α1 × α2 → Option σ} {x : σ} {wc : va_W} {w1 w2 : Int64 → α1 → α2 → va_W} (lk : sx_lkS own index y bytes mL (some .long) np) (hd : decode cc pc = .ok (.invokestatic index, 3)) (hp : pc + 3 = pc') (hst : st0 = As.reverse ++ st) (hnp : As.length = np) (hsum : (st.map fun v => v.category).sum ≤ 8) (hrm : h + 1 ≤ rm.frames ∧ 8 + (mL + 11) + 40 * h ≤ rm.locals ∧ k ≤ rm.cells ∧ n ≤ rm.slots) (isC : List Nat) (hnd : va_nd isC = true) (hC : isC.map (fun i => ws[i]?) = wc.map some) (hf : o.bind F = some x) (ct : ∀ (l : Launch) (r : Int64) (a1 : α1) (a2 : α2), o = some (r, a1, a2) → sx_L l d y bytes mL h As wc (w1 r a1 a2) r) (hm : ∀ (r : Int64) (a1 : α1) (a2 : α2), (w1 r a1 a2).map Prod.fst = wc.map Prod.fst) (hw : ∀ (r : Int64) (a1 : α1) (a2 : α2), sx_put ws isC (w1 r a1 a2) = w2 r a1 a2) (K : ∀ (r : Int64) (a1 : α1) (a2 : α2), F (r, a1, a2) = some x → sx_G d κ nL k n pc' lv (.long r :: st) (w2 r a1 a2)) : sx_G d κ nL k n pc lv st0 ws := g_callSl (ρ := Int64 × α1 × α2) (w1 := fun z => w1 z.1 z.2.1 z.2.2) (w2 := fun z => w2 z.1 z.2.1 z.2.2) (rv := fun z => z.1) X lk hd hp hst hnp hsum hrm isC hnd hC hf (fun l z h0 => ct l z.1 z.2.1 z.2.2 h0) (fun z => hm z.1 z.2.1 z.2.2) (fun z => hw z.1 z.2.1 z.2.2) (fun z => K z.1 z.2.1 z.2.2)
theorem g_callSl3 (X : sx_X d κ cc nL own rm) {index : Nat} {y : MethodName} {bytes : ByteArray} {mL : Nat} {np h : Nat} {As : List Value} {α1 : Type} {α2 : Type} {α3 : Type} {σ : Type} {o : Option (Int64 × α1 × α2 × α3)} {F : Int64 × α1 × α2 × α3 → Option σ} {x : σ} {wc : va_W} {w1 w2 : Int64 → α1 → α2 → α3 → va_W} (lk : sx_lkS own index y bytes mL (some .long) np) (hd : decode cc pc = .ok (.invokestatic index, 3)) (hp : pc + 3 = pc') (hst : st0 = As.reverse ++ st) (hnp : As.length = np) (hsum : (st.map fun v => v.category).sum ≤ 8) (hrm : h + 1 ≤ rm.frames ∧ 8 + (mL + 11) + 40 * h ≤ rm.locals ∧ k ≤ rm.cells ∧ n ≤ rm.slots) (isC : List Nat) (hnd : va_nd isC = true) (hC : isC.map (fun i => ws[i]?) = wc.map some) (hf : o.bind F = some x) (ct : ∀ (l : Launch) (r : Int64) (a1 : α1) (a2 : α2) (a3 : α3), o = some (r, a1, a2, a3) → sx_L l d y bytes mL h As wc (w1 r a1 a2 a3) r) (hm : ∀ (r : Int64) (a1 : α1) (a2 : α2) (a3 : α3), (w1 r a1 a2 a3).map Prod.fst = wc.map Prod.fst) (hw : ∀ (r : Int64) (a1 : α1) (a2 : α2) (a3 : α3), sx_put ws isC (w1 r a1 a2 a3) = w2 r a1 a2 a3) (K : ∀ (r : Int64) (a1 : α1) (a2 : α2) (a3 : α3), F (r, a1, a2, a3) = some x → sx_G d κ nL k n pc' lv (.long r :: st) (w2 r a1 a2 a3)) : sx_G d κ nL k n pc lv st0 ws := g_callSl (ρ := Int64 × α1 × α2 × α3) (w1 := fun z => w1 z.1 z.2.1 z.2.2.1 z.2.2.2) (w2 := fun z => w2 z.1 z.2.1 z.2.2.1 z.2.2.2) (rv := fun z => z.1) X lk hd hp hst hnp hsum hrm isC hnd hC hf (fun l z h0 => ct l z.1 z.2.1 z.2.2.1 z.2.2.2 h0) (fun z => hm z.1 z.2.1 z.2.2.1 z.2.2.2) (fun z => hw z.1 z.2.1 z.2.2.1 z.2.2.2) (fun z => K z.1 z.2.1 z.2.2.1 z.2.2.2)
theorem g_callSl4 (X : sx_X d κ cc nL own rm) {index : Nat} {y : MethodName} {bytes : ByteArray} {mL : Nat} {np h : Nat} {As : List Value} {α1 : Type} {α2 : Type} {α3 : Type} {α4 : Type} {σ : Type} {o : Option (Int64 × α1 × α2 × α3 × α4)} {F : Int64 × α1 × α2 × α3 × α4 → Option σ} {x : σ} {wc : va_W} {w1 w2 : Int64 → α1 → α2 → α3 → α4 → va_W} (lk : sx_lkS own index y bytes mL (some .long) np) (hd : decode cc pc = .ok (.invokestatic index, 3)) (hp : pc + 3 = pc') (hst : st0 = As.reverse ++ st) (hnp : As.length = np) (hsum : (st.map fun v => v.category).sum ≤ 8) (hrm : h + 1 ≤ rm.frames ∧ 8 + (mL + 11) + 40 * h ≤ rm.locals ∧ k ≤ rm.cells ∧ n ≤ rm.slots) (isC : List Nat) (hnd : va_nd isC = true) (hC : isC.map (fun i => ws[i]?) = wc.map some) (hf : o.bind F = some x) (ct : ∀ (l : Launch) (r : Int64) (a1 : α1) (a2 : α2) (a3 : α3) (a4 : α4), o = some (r, a1, a2, a3, a4) → sx_L l d y bytes mL h As wc (w1 r a1 a2 a3 a4) r) (hm : ∀ (r : Int64) (a1 : α1) (a2 : α2) (a3 : α3) (a4 : α4), (w1 r a1 a2 a3 a4).map Prod.fst = wc.map Prod.fst) (hw : ∀ (r : Int64) (a1 : α1) (a2 : α2) (a3 : α3) (a4 : α4), sx_put ws isC (w1 r a1 a2 a3 a4) = w2 r a1 a2 a3 a4) (K : ∀ (r : Int64) (a1 : α1) (a2 : α2) (a3 : α3) (a4 : α4), F (r, a1, a2, a3, a4) = some x → sx_G d κ nL k n pc' lv (.long r :: st) (w2 r a1 a2 a3 a4)) : sx_G d κ nL k n pc lv st0 ws := g_callSl (ρ := Int64 × α1 × α2 × α3 × α4) (w1 := fun z => w1 z.1 z.2.1 z.2.2.1 z.2.2.2.1 z.2.2.2.2) (w2 := fun z => w2 z.1 z.2.1 z.2.2.1 z.2.2.2.1 z.2.2.2.2) (rv := fun z => z.1) X lk hd hp hst hnp hsum hrm isC hnd hC hf (fun l z h0 => ct l z.1 z.2.1 z.2.2.1 z.2.2.2.1 z.2.2.2.2 h0) (fun z => hm z.1 z.2.1 z.2.2.1 z.2.2.2.1 z.2.2.2.2) (fun z => hw z.1 z.2.1 z.2.2.1 z.2.2.2.1 z.2.2.2.2) (fun z => K z.1 z.2.1 z.2.2.1 z.2.2.2.1 z.2.2.2.2)
theorem g_callSl5 (X : sx_X d κ cc nL own rm) {index : Nat} {y : MethodName} {bytes : ByteArray} {mL : Nat} {np h : Nat} {As : List Value} {α1 : Type} {α2 : Type} {α3 : Type} {α4 : Type} {α5 : Type} {σ : Type} {o : Option (Int64 × α1 × α2 × α3 × α4 × α5)} {F : Int64 × α1 × α2 × α3 × α4 × α5 → Option σ} {x : σ} {wc : va_W} {w1 w2 : Int64 → α1 → α2 → α3 → α4 → α5 → va_W} (lk : sx_lkS own index y bytes mL (some .long) np) (hd : decode cc pc = .ok (.invokestatic index, 3)) (hp : pc + 3 = pc') (hst : st0 = As.reverse ++ st) (hnp : As.length = np) (hsum : (st.map fun v => v.category).sum ≤ 8) (hrm : h + 1 ≤ rm.frames ∧ 8 + (mL + 11) + 40 * h ≤ rm.locals ∧ k ≤ rm.cells ∧ n ≤ rm.slots) (isC : List Nat) (hnd : va_nd isC = true) (hC : isC.map (fun i => ws[i]?) = wc.map some) (hf : o.bind F = some x) (ct : ∀ (l : Launch) (r : Int64) (a1 : α1) (a2 : α2) (a3 : α3) (a4 : α4) (a5 : α5), o = some (r, a1, a2, a3, a4, a5) → sx_L l d y bytes mL h As wc (w1 r a1 a2 a3 a4 a5) r) (hm : ∀ (r : Int64) (a1 : α1) (a2 : α2) (a3 : α3) (a4 : α4) (a5 : α5), (w1 r a1 a2 a3 a4 a5).map Prod.fst = wc.map Prod.fst) (hw : ∀ (r : Int64) (a1 : α1) (a2 : α2) (a3 : α3) (a4 : α4) (a5 : α5), sx_put ws isC (w1 r a1 a2 a3 a4 a5) = w2 r a1 a2 a3 a4 a5) (K : ∀ (r : Int64) (a1 : α1) (a2 : α2) (a3 : α3) (a4 : α4) (a5 : α5), F (r, a1, a2, a3, a4, a5) = some x → sx_G d κ nL k n pc' lv (.long r :: st) (w2 r a1 a2 a3 a4 a5)) : sx_G d κ nL k n pc lv st0 ws := g_callSl (ρ := Int64 × α1 × α2 × α3 × α4 × α5) (w1 := fun z => w1 z.1 z.2.1 z.2.2.1 z.2.2.2.1 z.2.2.2.2.1 z.2.2.2.2.2) (w2 := fun z => w2 z.1 z.2.1 z.2.2.1 z.2.2.2.1 z.2.2.2.2.1 z.2.2.2.2.2) (rv := fun z => z.1) X lk hd hp hst hnp hsum hrm isC hnd hC hf (fun l z h0 => ct l z.1 z.2.1 z.2.2.1 z.2.2.2.1 z.2.2.2.2.1 z.2.2.2.2.2 h0) (fun z => hm z.1 z.2.1 z.2.2.1 z.2.2.2.1 z.2.2.2.2.1 z.2.2.2.2.2) (fun z => hw z.1 z.2.1 z.2.2.1 z.2.2.2.1 z.2.2.2.2.1 z.2.2.2.2.2) (fun z => K z.1 z.2.1 z.2.2.1 z.2.2.2.1 z.2.2.2.2.1 z.2.2.2.2.2)
theorem g_callSl6 (X : sx_X d κ cc nL own rm) {index : Nat} {y : MethodName} {bytes : ByteArray} {mL : Nat} {np h : Nat} {As : List Value} {α1 : Type} {α2 : Type} {α3 : Type} {α4 : Type} {α5 : Type} {α6 : Type} {σ : Type} {o : Option (Int64 × α1 × α2 × α3 × α4 × α5 × α6)} {F : Int64 × α1 × α2 × α3 × α4 × α5 × α6 → Option σ} {x : σ} {wc : va_W} {w1 w2 : Int64 → α1 → α2 → α3 → α4 → α5 → α6 → va_W} (lk : sx_lkS own index y bytes mL (some .long) np) (hd : decode cc pc = .ok (.invokestatic index, 3)) (hp : pc + 3 = pc') (hst : st0 = As.reverse ++ st) (hnp : As.length = np) (hsum : (st.map fun v => v.category).sum ≤ 8) (hrm : h + 1 ≤ rm.frames ∧ 8 + (mL + 11) + 40 * h ≤ rm.locals ∧ k ≤ rm.cells ∧ n ≤ rm.slots) (isC : List Nat) (hnd : va_nd isC = true) (hC : isC.map (fun i => ws[i]?) = wc.map some) (hf : o.bind F = some x) (ct : ∀ (l : Launch) (r : Int64) (a1 : α1) (a2 : α2) (a3 : α3) (a4 : α4) (a5 : α5) (a6 : α6), o = some (r, a1, a2, a3, a4, a5, a6) → sx_L l d y bytes mL h As wc (w1 r a1 a2 a3 a4 a5 a6) r) (hm : ∀ (r : Int64) (a1 : α1) (a2 : α2) (a3 : α3) (a4 : α4) (a5 : α5) (a6 : α6), (w1 r a1 a2 a3 a4 a5 a6).map Prod.fst = wc.map Prod.fst) (hw : ∀ (r : Int64) (a1 : α1) (a2 : α2) (a3 : α3) (a4 : α4) (a5 : α5) (a6 : α6), sx_put ws isC (w1 r a1 a2 a3 a4 a5 a6) = w2 r a1 a2 a3 a4 a5 a6) (K : ∀ (r : Int64) (a1 : α1) (a2 : α2) (a3 : α3) (a4 : α4) (a5 : α5) (a6 : α6), F (r, a1, a2, a3, a4, a5, a6) = some x → sx_G d κ nL k n pc' lv (.long r :: st) (w2 r a1 a2 a3 a4 a5 a6)) : sx_G d κ nL k n pc lv st0 ws := g_callSl (ρ := Int64 × α1 × α2 × α3 × α4 × α5 × α6) (w1 := fun z => w1 z.1 z.2.1 z.2.2.1 z.2.2.2.1 z.2.2.2.2.1 z.2.2.2.2.2.1 z.2.2.2.2.2.2) (w2 := fun z => w2 z.1 z.2.1 z.2.2.1 z.2.2.2.1 z.2.2.2.2.1 z.2.2.2.2.2.1 z.2.2.2.2.2.2) (rv := fun z => z.1) X lk hd hp hst hnp hsum hrm isC hnd hC hf (fun l z h0 => ct l z.1 z.2.1 z.2.2.1 z.2.2.2.1 z.2.2.2.2.1 z.2.2.2.2.2.1 z.2.2.2.2.2.2 h0) (fun z => hm z.1 z.2.1 z.2.2.1 z.2.2.2.1 z.2.2.2.2.1 z.2.2.2.2.2.1 z.2.2.2.2.2.2) (fun z => hw z.1 z.2.1 z.2.2.1 z.2.2.2.1 z.2.2.2.2.1 z.2.2.2.2.2.1 z.2.2.2.2.2.2) (fun z => K z.1 z.2.1 z.2.2.1 z.2.2.2.1 z.2.2.2.2.1 z.2.2.2.2.2.1 z.2.2.2.2.2.2)
theorem g_callSl7 (X : sx_X d κ cc nL own rm) {index : Nat} {y : MethodName} {bytes : ByteArray} {mL : Nat} {np h : Nat} {As : List Value} {α1 : Type} {α2 : Type} {α3 : Type} {α4 : Type} {α5 : Type} {α6 : Type} {α7 : Type} {σ : Type} {o : Option (Int64 × α1 × α2 × α3 × α4 × α5 × α6 × α7)} {F : Int64 × α1 × α2 × α3 × α4 × α5 × α6 × α7 → Option σ} {x : σ} {wc : va_W} {w1 w2 : Int64 → α1 → α2 → α3 → α4 → α5 → α6 → α7 → va_W} (lk : sx_lkS own index y bytes mL (some .long) np) (hd : decode cc pc = .ok (.invokestatic index, 3)) (hp : pc + 3 = pc') (hst : st0 = As.reverse ++ st) (hnp : As.length = np) (hsum : (st.map fun v => v.category).sum ≤ 8) (hrm : h + 1 ≤ rm.frames ∧ 8 + (mL + 11) + 40 * h ≤ rm.locals ∧ k ≤ rm.cells ∧ n ≤ rm.slots) (isC : List Nat) (hnd : va_nd isC = true) (hC : isC.map (fun i => ws[i]?) = wc.map some) (hf : o.bind F = some x) (ct : ∀ (l : Launch) (r : Int64) (a1 : α1) (a2 : α2) (a3 : α3) (a4 : α4) (a5 : α5) (a6 : α6) (a7 : α7), o = some (r, a1, a2, a3, a4, a5, a6, a7) → sx_L l d y bytes mL h As wc (w1 r a1 a2 a3 a4 a5 a6 a7) r) (hm : ∀ (r : Int64) (a1 : α1) (a2 : α2) (a3 : α3) (a4 : α4) (a5 : α5) (a6 : α6) (a7 : α7), (w1 r a1 a2 a3 a4 a5 a6 a7).map Prod.fst = wc.map Prod.fst) (hw : ∀ (r : Int64) (a1 : α1) (a2 : α2) (a3 : α3) (a4 : α4) (a5 : α5) (a6 : α6) (a7 : α7), sx_put ws isC (w1 r a1 a2 a3 a4 a5 a6 a7) = w2 r a1 a2 a3 a4 a5 a6 a7) (K : ∀ (r : Int64) (a1 : α1) (a2 : α2) (a3 : α3) (a4 : α4) (a5 : α5) (a6 : α6) (a7 : α7), F (r, a1, a2, a3, a4, a5, a6, a7) = some x → sx_G d κ nL k n pc' lv (.long r :: st) (w2 r a1 a2 a3 a4 a5 a6 a7)) : sx_G d κ nL k n pc lv st0 ws := g_callSl (ρ := Int64 × α1 × α2 × α3 × α4 × α5 × α6 × α7) (w1 := fun z => w1 z.1 z.2.1 z.2.2.1 z.2.2.2.1 z.2.2.2.2.1 z.2.2.2.2.2.1 z.2.2.2.2.2.2.1 z.2.2.2.2.2.2.2) (w2 := fun z => w2 z.1 z.2.1 z.2.2.1 z.2.2.2.1 z.2.2.2.2.1 z.2.2.2.2.2.1 z.2.2.2.2.2.2.1 z.2.2.2.2.2.2.2) (rv := fun z => z.1) X lk hd hp hst hnp hsum hrm isC hnd hC hf (fun l z h0 => ct l z.1 z.2.1 z.2.2.1 z.2.2.2.1 z.2.2.2.2.1 z.2.2.2.2.2.1 z.2.2.2.2.2.2.1 z.2.2.2.2.2.2.2 h0) (fun z => hm z.1 z.2.1 z.2.2.1 z.2.2.2.1 z.2.2.2.2.1 z.2.2.2.2.2.1 z.2.2.2.2.2.2.1 z.2.2.2.2.2.2.2) (fun z => hw z.1 z.2.1 z.2.2.1 z.2.2.2.1 z.2.2.2.2.1 z.2.2.2.2.2.1 z.2.2.2.2.2.2.1 z.2.2.2.2.2.2.2) (fun z => K z.1 z.2.1 z.2.2.1 z.2.2.2.1 z.2.2.2.2.1 z.2.2.2.2.2.1 z.2.2.2.2.2.2.1 z.2.2.2.2.2.2.2)
theorem g_callSl8 (X : sx_X d κ cc nL own rm) {index : Nat} {y : MethodName} {bytes : ByteArray} {mL : Nat} {np h : Nat} {As : List Value} {α1 : Type} {α2 : Type} {α3 : Type} {α4 : Type} {α5 : Type} {α6 : Type} {α7 : Type} {α8 : Type} {σ : Type} {o : Option (Int64 × α1 × α2 × α3 × α4 × α5 × α6 × α7 × α8)} {F : Int64 × α1 × α2 × α3 × α4 × α5 × α6 × α7 × α8 → Option σ} {x : σ} {wc : va_W} {w1 w2 : Int64 → α1 → α2 → α3 → α4 → α5 → α6 → α7 → α8 → va_W} (lk : sx_lkS own index y bytes mL (some .long) np) (hd : decode cc pc = .ok (.invokestatic index, 3)) (hp : pc + 3 = pc') (hst : st0 = As.reverse ++ st) (hnp : As.length = np) (hsum : (st.map fun v => v.category).sum ≤ 8) (hrm : h + 1 ≤ rm.frames ∧ 8 + (mL + 11) + 40 * h ≤ rm.locals ∧ k ≤ rm.cells ∧ n ≤ rm.slots) (isC : List Nat) (hnd : va_nd isC = true) (hC : isC.map (fun i => ws[i]?) = wc.map some) (hf : o.bind F = some x) (ct : ∀ (l : Launch) (r : Int64) (a1 : α1) (a2 : α2) (a3 : α3) (a4 : α4) (a5 : α5) (a6 : α6) (a7 : α7) (a8 : α8), o = some (r, a1, a2, a3, a4, a5, a6, a7, a8) → sx_L l d y bytes mL h As wc (w1 r a1 a2 a3 a4 a5 a6 a7 a8) r) (hm : ∀ (r : Int64) (a1 : α1) (a2 : α2) (a3 : α3) (a4 : α4) (a5 : α5) (a6 : α6) (a7 : α7) (a8 : α8), (w1 r a1 a2 a3 a4 a5 a6 a7 a8).map Prod.fst = wc.map Prod.fst) (hw : ∀ (r : Int64) (a1 : α1) (a2 : α2) (a3 : α3) (a4 : α4) (a5 : α5) (a6 : α6) (a7 : α7) (a8 : α8), sx_put ws isC (w1 r a1 a2 a3 a4 a5 a6 a7 a8) = w2 r a1 a2 a3 a4 a5 a6 a7 a8) (K : ∀ (r : Int64) (a1 : α1) (a2 : α2) (a3 : α3) (a4 : α4) (a5 : α5) (a6 : α6) (a7 : α7) (a8 : α8), F (r, a1, a2, a3, a4, a5, a6, a7, a8) = some x → sx_G d κ nL k n pc' lv (.long r :: st) (w2 r a1 a2 a3 a4 a5 a6 a7 a8)) : sx_G d κ nL k n pc lv st0 ws := g_callSl (ρ := Int64 × α1 × α2 × α3 × α4 × α5 × α6 × α7 × α8) (w1 := fun z => w1 z.1 z.2.1 z.2.2.1 z.2.2.2.1 z.2.2.2.2.1 z.2.2.2.2.2.1 z.2.2.2.2.2.2.1 z.2.2.2.2.2.2.2.1 z.2.2.2.2.2.2.2.2) (w2 := fun z => w2 z.1 z.2.1 z.2.2.1 z.2.2.2.1 z.2.2.2.2.1 z.2.2.2.2.2.1 z.2.2.2.2.2.2.1 z.2.2.2.2.2.2.2.1 z.2.2.2.2.2.2.2.2) (rv := fun z => z.1) X lk hd hp hst hnp hsum hrm isC hnd hC hf (fun l z h0 => ct l z.1 z.2.1 z.2.2.1 z.2.2.2.1 z.2.2.2.2.1 z.2.2.2.2.2.1 z.2.2.2.2.2.2.1 z.2.2.2.2.2.2.2.1 z.2.2.2.2.2.2.2.2 h0) (fun z => hm z.1 z.2.1 z.2.2.1 z.2.2.2.1 z.2.2.2.2.1 z.2.2.2.2.2.1 z.2.2.2.2.2.2.1 z.2.2.2.2.2.2.2.1 z.2.2.2.2.2.2.2.2) (fun z => hw z.1 z.2.1 z.2.2.1 z.2.2.2.1 z.2.2.2.2.1 z.2.2.2.2.2.1 z.2.2.2.2.2.2.1 z.2.2.2.2.2.2.2.1 z.2.2.2.2.2.2.2.2) (fun z => K z.1 z.2.1 z.2.2.1 z.2.2.2.1 z.2.2.2.2.1 z.2.2.2.2.2.1 z.2.2.2.2.2.2.1 z.2.2.2.2.2.2.2.1 z.2.2.2.2.2.2.2.2)
end SXC
end
section
abbrev ai (d : sx_D) (q n : Nat) (f : Nat → Int32) : Nat × va_E := (q, .inl (d.2.1, n, .inl f))
abbrev ac (d : sx_D) (q n : Nat) (f : Nat → Int32) : Nat × va_E := (q, .inl (d.2.2, n, .inl f))
abbrev oX0 (q : Nat) (f_most : Int32) (f_cells : Nat) (f_held : Int32) (f_next : Int32) : Nat × va_E := (q, .inr (0, [.int f_most, .ref f_cells, .int f_held, .int f_next]))
abbrev oX1 (q : Nat) (f_kinds : Nat) (f_heights : Nat) (f_winds : Nat) (f_peaks : Int32) (f_windsTold : Int32) : Nat × va_E := (q, .inr (1, [.ref f_kinds, .ref f_heights, .ref f_winds, .int f_peaks, .int f_windsTold]))
abbrev oX2 (q : Nat) (f_letters : Nat) (f_numbers : Nat) (f_range : Nat) (f_state : Nat) (f_length : Int32) (f_at : Int32) : Nat × va_E := (q, .inr (2, [.ref f_letters, .ref f_numbers, .ref f_range, .ref f_state, .int f_length, .int f_at]))
abbrev oX3 (q : Nat) (f_cells : Nat) : Nat × va_E := (q, .inr (3, [.ref f_cells]))
abbrev oX4 (a : Nat → Nat) (f_saidOn : Int32) (f_saidOff : Int32) (f_saidCount : Int32) : Nat × va_E := (a 0, .inr (4, [.ref (a 1), .ref (a 10), .ref (a 14), .ref (a 16), .ref (a 18), .ref (a 20), .ref (a 22), .ref (a 23), .ref (a 24), .ref (a 25), .int f_saidOn, .int f_saidOff, .int f_saidCount]))
abbrev oX5 (a : Nat → Nat) (f_many : Int32) (f_windMany : Int32) (f_year : Int32) (f_saidMany : Int32) (f_size : Int32) (f_readAt : Int32) (f_readPeaks : Int32) (f_readWinds : Int32) (f_readNumber : Int32) (f_undoMany : Int32) (f_keptMany : Int32) : Nat × va_E := (a 0, .inr (5, [.int f_many, .int f_windMany, .ref (a 1), .ref (a 2), .ref (a 3), .int f_year, .ref (a 4), .ref (a 5), .ref (a 6), .int f_saidMany, .ref (a 7), .ref (a 8), .ref (a 9), .int f_size, .int f_readAt, .int f_readPeaks, .int f_readWinds, .ref (a 10), .ref (a 11), .ref (a 12), .ref (a 13), .ref (a 14), .int f_readNumber, .ref (a 15), .int f_undoMany, .ref (a 16), .ref (a 17), .ref (a 18), .ref (a 19), .int f_keptMany]))
theorem fw_X0 : sx_fw TX0 4 tyX0 := ⟨tyX0_ok, nmX0⟩
theorem hin_X0 : ∀ w ∈ u_ws RX0 TX0 4, w ∈ sx_gw := by
  intro w hw
  obtain ⟨j, hj, rfl⟩ := List.mem_map.mp hw
  have hj := List.mem_range.mp hj
  match j, hj with
  | 0, _ => exact sx_mem 210 (by decide +kernel) (by decide +kernel)
  | 1, _ => exact sx_mem 212 (by decide +kernel) (by decide +kernel)
  | 2, _ => exact sx_mem 214 (by decide +kernel) (by decide +kernel)
  | 3, _ => exact sx_mem 216 (by decide +kernel) (by decide +kernel)
  | j + 4, hj => exact absurd hj (by omega)
theorem fw_X1 : sx_fw TX1 5 tyX1 := ⟨tyX1_ok, nmX1⟩
theorem hin_X1 : ∀ w ∈ u_ws RX1 TX1 5, w ∈ sx_gw := by
  intro w hw
  obtain ⟨j, hj, rfl⟩ := List.mem_map.mp hw
  have hj := List.mem_range.mp hj
  match j, hj with
  | 0, _ => exact sx_mem 146 (by decide +kernel) (by decide +kernel)
  | 1, _ => exact sx_mem 148 (by decide +kernel) (by decide +kernel)
  | 2, _ => exact sx_mem 150 (by decide +kernel) (by decide +kernel)
  | 3, _ => exact sx_mem 152 (by decide +kernel) (by decide +kernel)
  | 4, _ => exact sx_mem 154 (by decide +kernel) (by decide +kernel)
  | j + 5, hj => exact absurd hj (by omega)
theorem fw_X2 : sx_fw TX2 6 tyX2 := ⟨tyX2_ok, nmX2⟩
theorem hin_X2 : ∀ w ∈ u_ws RX2 TX2 6, w ∈ sx_gw := by
  intro w hw
  obtain ⟨j, hj, rfl⟩ := List.mem_map.mp hw
  have hj := List.mem_range.mp hj
  match j, hj with
  | 0, _ => exact sx_mem 179 (by decide +kernel) (by decide +kernel)
  | 1, _ => exact sx_mem 181 (by decide +kernel) (by decide +kernel)
  | 2, _ => exact sx_mem 183 (by decide +kernel) (by decide +kernel)
  | 3, _ => exact sx_mem 185 (by decide +kernel) (by decide +kernel)
  | 4, _ => exact sx_mem 187 (by decide +kernel) (by decide +kernel)
  | 5, _ => exact sx_mem 189 (by decide +kernel) (by decide +kernel)
  | j + 6, hj => exact absurd hj (by omega)
theorem fw_X3 : sx_fw TX3 1 tyX3 := ⟨tyX3_ok, nmX3⟩
theorem hin_X3 : ∀ w ∈ u_ws RX3 TX3 1, w ∈ sx_gw := by
  intro w hw
  obtain ⟨j, hj, rfl⟩ := List.mem_map.mp hw
  have hj := List.mem_range.mp hj
  match j, hj with
  | 0, _ => exact sx_mem 167 (by decide +kernel) (by decide +kernel)
  | j + 1, hj => exact absurd hj (by omega)
theorem fw_X4 : sx_fw TX4 13 tyX4 := ⟨tyX4_ok, nmX4⟩
theorem hin_X4 : ∀ w ∈ u_ws RX4 TX4 13, w ∈ sx_gw := by
  intro w hw
  obtain ⟨j, hj, rfl⟩ := List.mem_map.mp hw
  have hj := List.mem_range.mp hj
  match j, hj with
  | 0, _ => exact sx_mem 400 (by decide +kernel) (by decide +kernel)
  | 1, _ => exact sx_mem 402 (by decide +kernel) (by decide +kernel)
  | 2, _ => exact sx_mem 404 (by decide +kernel) (by decide +kernel)
  | 3, _ => exact sx_mem 406 (by decide +kernel) (by decide +kernel)
  | 4, _ => exact sx_mem 408 (by decide +kernel) (by decide +kernel)
  | 5, _ => exact sx_mem 410 (by decide +kernel) (by decide +kernel)
  | 6, _ => exact sx_mem 412 (by decide +kernel) (by decide +kernel)
  | 7, _ => exact sx_mem 414 (by decide +kernel) (by decide +kernel)
  | 8, _ => exact sx_mem 416 (by decide +kernel) (by decide +kernel)
  | 9, _ => exact sx_mem 418 (by decide +kernel) (by decide +kernel)
  | 10, _ => exact sx_mem 420 (by decide +kernel) (by decide +kernel)
  | 11, _ => exact sx_mem 422 (by decide +kernel) (by decide +kernel)
  | 12, _ => exact sx_mem 424 (by decide +kernel) (by decide +kernel)
  | j + 13, hj => exact absurd hj (by omega)
theorem fw_X5 : sx_fw TX5 30 tyX5 := ⟨tyX5_ok, nmX5⟩
theorem hin_X5 : ∀ w ∈ u_ws RX5 TX5 30, w ∈ sx_gw := by
  intro w hw
  obtain ⟨j, hj, rfl⟩ := List.mem_map.mp hw
  have hj := List.mem_range.mp hj
  match j, hj with
  | 0, _ => exact sx_mem 822 (by decide +kernel) (by decide +kernel)
  | 1, _ => exact sx_mem 824 (by decide +kernel) (by decide +kernel)
  | 2, _ => exact sx_mem 826 (by decide +kernel) (by decide +kernel)
  | 3, _ => exact sx_mem 828 (by decide +kernel) (by decide +kernel)
  | 4, _ => exact sx_mem 830 (by decide +kernel) (by decide +kernel)
  | 5, _ => exact sx_mem 832 (by decide +kernel) (by decide +kernel)
  | 6, _ => exact sx_mem 834 (by decide +kernel) (by decide +kernel)
  | 7, _ => exact sx_mem 836 (by decide +kernel) (by decide +kernel)
  | 8, _ => exact sx_mem 838 (by decide +kernel) (by decide +kernel)
  | 9, _ => exact sx_mem 840 (by decide +kernel) (by decide +kernel)
  | 10, _ => exact sx_mem 842 (by decide +kernel) (by decide +kernel)
  | 11, _ => exact sx_mem 844 (by decide +kernel) (by decide +kernel)
  | 12, _ => exact sx_mem 846 (by decide +kernel) (by decide +kernel)
  | 13, _ => exact sx_mem 848 (by decide +kernel) (by decide +kernel)
  | 14, _ => exact sx_mem 850 (by decide +kernel) (by decide +kernel)
  | 15, _ => exact sx_mem 852 (by decide +kernel) (by decide +kernel)
  | 16, _ => exact sx_mem 854 (by decide +kernel) (by decide +kernel)
  | 17, _ => exact sx_mem 856 (by decide +kernel) (by decide +kernel)
  | 18, _ => exact sx_mem 858 (by decide +kernel) (by decide +kernel)
  | 19, _ => exact sx_mem 860 (by decide +kernel) (by decide +kernel)
  | 20, _ => exact sx_mem 862 (by decide +kernel) (by decide +kernel)
  | 21, _ => exact sx_mem 864 (by decide +kernel) (by decide +kernel)
  | 22, _ => exact sx_mem 866 (by decide +kernel) (by decide +kernel)
  | 23, _ => exact sx_mem 868 (by decide +kernel) (by decide +kernel)
  | 24, _ => exact sx_mem 870 (by decide +kernel) (by decide +kernel)
  | 25, _ => exact sx_mem 872 (by decide +kernel) (by decide +kernel)
  | 26, _ => exact sx_mem 874 (by decide +kernel) (by decide +kernel)
  | 27, _ => exact sx_mem 876 (by decide +kernel) (by decide +kernel)
  | 28, _ => exact sx_mem 878 (by decide +kernel) (by decide +kernel)
  | 29, _ => exact sx_mem 880 (by decide +kernel) (by decide +kernel)
  | j + 30, hj => exact absurd hj (by omega)
theorem fl_X0_25 : sx_fl RX0 RX3 25 RX3 TX3 1 3 0 := ⟨rfl, by decide, hin_X3, rfl, Or.inr ⟨"TrimmedPeaks", List.mem_of_getElem? (i := 166) (by decide +kernel)⟩⟩
theorem fl_X0_21 : sx_fl RX0 RX0 21 RX0 TX0 4 0 1 := ⟨rfl, by decide, hin_X0, rfl, Or.inl (sx_mem 206 (by decide +kernel) (by decide +kernel))⟩
theorem fl_X0_28 : sx_fl RX0 RX0 28 RX0 TX0 4 0 3 := ⟨rfl, by decide, hin_X0, rfl, Or.inl (sx_mem 209 (by decide +kernel) (by decide +kernel))⟩
theorem nv_X0_31 : sx_nv RX0 31 := ⟨sx_mem 523 (by decide +kernel) (by decide +kernel), sx_mem 361 (by decide +kernel) (by decide +kernel), sx_mem 360 (by decide +kernel) (by decide +kernel), sx_mem 116 (by decide +kernel) (by decide +kernel)⟩
theorem fl_X0_15 : sx_fl RX0 RX0 15 RX0 TX0 4 0 0 := ⟨rfl, by decide, hin_X0, rfl, Or.inl (sx_mem 205 (by decide +kernel) (by decide +kernel))⟩
theorem fl_X0_37 : sx_fl RX0 RX0 37 RX0 TX0 4 0 2 := ⟨rfl, by decide, hin_X0, rfl, Or.inl (sx_mem 207 (by decide +kernel) (by decide +kernel))⟩
theorem mn_X0_40 : sx_mn RX0 40 := ⟨sx_mem 524 (by decide +kernel) (by decide +kernel), sx_mem 525 (by decide +kernel) (by decide +kernel), sx_mem 110 (by decide +kernel) (by decide +kernel), sx_mem 526 (by decide +kernel) (by decide +kernel)⟩
theorem fl_X1_21 : sx_fl RX1 RX1 21 RX1 TX1 5 1 3 := ⟨rfl, by decide, hin_X1, rfl, Or.inl (sx_mem 142 (by decide +kernel) (by decide +kernel))⟩
theorem fl_X1_25 : sx_fl RX1 RX1 25 RX1 TX1 5 1 4 := ⟨rfl, by decide, hin_X1, rfl, Or.inl (sx_mem 145 (by decide +kernel) (by decide +kernel))⟩
theorem fl_X1_9 : sx_fl RX1 RX1 9 RX1 TX1 5 1 0 := ⟨rfl, by decide, hin_X1, rfl, Or.inl (sx_mem 139 (by decide +kernel) (by decide +kernel))⟩
theorem nv_X1_28 : sx_nv RX1 28 := ⟨sx_mem 359 (by decide +kernel) (by decide +kernel), sx_mem 361 (by decide +kernel) (by decide +kernel), sx_mem 360 (by decide +kernel) (by decide +kernel), sx_mem 116 (by decide +kernel) (by decide +kernel)⟩
theorem fl_X1_15 : sx_fl RX1 RX1 15 RX1 TX1 5 1 1 := ⟨rfl, by decide, hin_X1, rfl, Or.inl (sx_mem 140 (by decide +kernel) (by decide +kernel))⟩
theorem fl_X1_18 : sx_fl RX1 RX1 18 RX1 TX1 5 1 2 := ⟨rfl, by decide, hin_X1, rfl, Or.inl (sx_mem 141 (by decide +kernel) (by decide +kernel))⟩
theorem lk_X1_34 : sx_lkV RX1 34 yX1_isPeak cX1_isPeak 2 (some .boolean) 1 1 := ⟨Or.inl (sx_mem 454 (by decide +kernel) (by decide +kernel)), sx_mem 342 (by decide +kernel) (by decide +kernel), sx_mem 14 (by decide +kernel) (by decide +kernel), sx_mem 107 (by decide +kernel) (by decide +kernel), sx_mem 343 (by decide +kernel) (by decide +kernel), ⟨by decide +kernel, by decide +kernel⟩, by decide +kernel, _, rfl, rfl⟩
theorem lk_X1_38 : sx_lkV RX1 38 yX1_kindOf cX1_kindOf 2 (some .int) 1 1 := ⟨Or.inl (sx_mem 476 (by decide +kernel) (by decide +kernel)), sx_mem 452 (by decide +kernel) (by decide +kernel), sx_mem 23 (by decide +kernel) (by decide +kernel), sx_mem 107 (by decide +kernel) (by decide +kernel), sx_mem 453 (by decide +kernel) (by decide +kernel), ⟨by decide +kernel, by decide +kernel⟩, by decide +kernel, _, rfl, rfl⟩
theorem mx_X1_42 : sx_mx RX1 42 := ⟨sx_mem 477 (by decide +kernel) (by decide +kernel), sx_mem 203 (by decide +kernel) (by decide +kernel), sx_mem 110 (by decide +kernel) (by decide +kernel), sx_mem 204 (by decide +kernel) (by decide +kernel)⟩
theorem fl_X2_33 : sx_fl RX2 RX2 33 RX2 TX2 6 2 4 := ⟨rfl, by decide, hin_X2, rfl, Or.inl (sx_mem 177 (by decide +kernel) (by decide +kernel))⟩
theorem fl_X2_9 : sx_fl RX2 RX2 9 RX2 TX2 6 2 0 := ⟨rfl, by decide, hin_X2, rfl, Or.inl (sx_mem 170 (by decide +kernel) (by decide +kernel))⟩
theorem fl_X3_9 : sx_fl RX3 RX3 9 RX3 TX3 1 3 0 := ⟨rfl, by decide, hin_X3, rfl, Or.inl (sx_mem 165 (by decide +kernel) (by decide +kernel))⟩
theorem fl_X2_22 : sx_fl RX2 RX2 22 RX2 TX2 6 2 2 := ⟨rfl, by decide, hin_X2, rfl, Or.inl (sx_mem 172 (by decide +kernel) (by decide +kernel))⟩
theorem lk_X2_96 : sx_lkV RX2 96 yX1_isPeak cX1_isPeak 2 (some .boolean) 1 1 := ⟨Or.inr ⟨"TrimmedPeaks", List.mem_of_getElem? (i := 340) (by decide +kernel)⟩, sx_mem 342 (by decide +kernel) (by decide +kernel), sx_mem 14 (by decide +kernel) (by decide +kernel), sx_mem 107 (by decide +kernel) (by decide +kernel), sx_mem 343 (by decide +kernel) (by decide +kernel), ⟨by decide +kernel, by decide +kernel⟩, by decide +kernel, _, rfl, rfl⟩
theorem lk_X2_89 : sx_lkS RX2 89 yX4_isTrimming cX4_isTrimming 1 (some .boolean) 1 := ⟨Or.inr ⟨"TrimmedPeaks", List.mem_of_getElem? (i := 328) (by decide +kernel)⟩, sx_mem 329 (by decide +kernel) (by decide +kernel), sx_mem 105 (by decide +kernel) (by decide +kernel), sx_mem 330 (by decide +kernel) (by decide +kernel), ⟨by decide +kernel, by decide +kernel⟩, by decide +kernel⟩
theorem lk_X2_99 : sx_lkS RX2 99 yX4_isPins cX4_isPins 1 (some .boolean) 1 := ⟨Or.inr ⟨"TrimmedPeaks", List.mem_of_getElem? (i := 344) (by decide +kernel)⟩, sx_mem 345 (by decide +kernel) (by decide +kernel), sx_mem 105 (by decide +kernel) (by decide +kernel), sx_mem 346 (by decide +kernel) (by decide +kernel), ⟨by decide +kernel, by decide +kernel⟩, by decide +kernel⟩
theorem fl_X2_29 : sx_fl RX2 RX2 29 RX2 TX2 6 2 3 := ⟨rfl, by decide, hin_X2, rfl, Or.inl (sx_mem 174 (by decide +kernel) (by decide +kernel))⟩
theorem lk_X2_102 : sx_lkV RX2 102 yX3_setPins cX3_setPins 5 none 3 3 := ⟨Or.inr ⟨"TrimmedPeaks", List.mem_of_getElem? (i := 347) (by decide +kernel)⟩, sx_mem 349 (by decide +kernel) (by decide +kernel), sx_mem 15 (by decide +kernel) (by decide +kernel), sx_mem 108 (by decide +kernel) (by decide +kernel), sx_mem 350 (by decide +kernel) (by decide +kernel), ⟨by decide +kernel, by decide +kernel⟩, by decide +kernel, _, rfl, rfl⟩
theorem lk_X3_38 : sx_lkS RX3 38 yX4_isTrimming cX4_isTrimming 1 (some .boolean) 1 := ⟨Or.inr ⟨"TrimmedPeaks", List.mem_of_getElem? (i := 335) (by decide +kernel)⟩, sx_mem 329 (by decide +kernel) (by decide +kernel), sx_mem 105 (by decide +kernel) (by decide +kernel), sx_mem 330 (by decide +kernel) (by decide +kernel), ⟨by decide +kernel, by decide +kernel⟩, by decide +kernel⟩
theorem lk_X2_92 : sx_lkV RX2 92 yX3_setStore cX3_setStore 3 none 2 3 := ⟨Or.inr ⟨"TrimmedPeaks", List.mem_of_getElem? (i := 331) (by decide +kernel)⟩, sx_mem 333 (by decide +kernel) (by decide +kernel), sx_mem 12 (by decide +kernel) (by decide +kernel), sx_mem 108 (by decide +kernel) (by decide +kernel), sx_mem 334 (by decide +kernel) (by decide +kernel), ⟨by decide +kernel, by decide +kernel⟩, by decide +kernel, _, rfl, rfl⟩
theorem fl_X2_15 : sx_fl RX2 RX2 15 RX2 TX2 6 2 1 := ⟨rfl, by decide, hin_X2, rfl, Or.inl (sx_mem 171 (by decide +kernel) (by decide +kernel))⟩
theorem lk_X2_74 : sx_lkV RX2 74 yX1_tellPeak cX1_tellPeak 3 (some .boolean) 2 1 := ⟨Or.inr ⟨"TrimmedPeaks", List.mem_of_getElem? (i := 320) (by decide +kernel)⟩, sx_mem 322 (by decide +kernel) (by decide +kernel), sx_mem 10 (by decide +kernel) (by decide +kernel), sx_mem 107 (by decide +kernel) (by decide +kernel), sx_mem 323 (by decide +kernel) (by decide +kernel), ⟨by decide +kernel, by decide +kernel⟩, by decide +kernel, _, rfl, rfl⟩
theorem lk_X2_78 : sx_lkV RX2 78 yX2_tellStore cX2_tellStore 3 (some .boolean) 2 2 := ⟨Or.inl (sx_mem 324 (by decide +kernel) (by decide +kernel)), sx_mem 326 (by decide +kernel) (by decide +kernel), sx_mem 11 (by decide +kernel) (by decide +kernel), sx_mem 106 (by decide +kernel) (by decide +kernel), sx_mem 327 (by decide +kernel) (by decide +kernel), ⟨by decide +kernel, by decide +kernel⟩, by decide +kernel, _, rfl, rfl⟩
theorem lk_X2_81 : sx_lkV RX2 81 yX2_tellOn cX2_tellOn 4 (some .boolean) 3 2 := ⟨Or.inl (sx_mem 336 (by decide +kernel) (by decide +kernel)), sx_mem 338 (by decide +kernel) (by decide +kernel), sx_mem 13 (by decide +kernel) (by decide +kernel), sx_mem 106 (by decide +kernel) (by decide +kernel), sx_mem 339 (by decide +kernel) (by decide +kernel), ⟨by decide +kernel, by decide +kernel⟩, by decide +kernel, _, rfl, rfl⟩
theorem lk_X2_85 : sx_lkV RX2 85 yX1_tellWind cX1_tellWind 2 (some .boolean) 1 1 := ⟨Or.inr ⟨"TrimmedPeaks", List.mem_of_getElem? (i := 351) (by decide +kernel)⟩, sx_mem 353 (by decide +kernel) (by decide +kernel), sx_mem 16 (by decide +kernel) (by decide +kernel), sx_mem 107 (by decide +kernel) (by decide +kernel), sx_mem 354 (by decide +kernel) (by decide +kernel), ⟨by decide +kernel, by decide +kernel⟩, by decide +kernel, _, rfl, rfl⟩
theorem fl_X2_54 : sx_fl RX2 RX2 54 RX2 TX2 6 2 5 := ⟨rfl, by decide, hin_X2, rfl, Or.inl (sx_mem 178 (by decide +kernel) (by decide +kernel))⟩
theorem lk_X2_61 : sx_lkV RX2 61 yX2_letterAt cX2_letterAt 2 (some .char) 1 2 := ⟨Or.inl (sx_mem 305 (by decide +kernel) (by decide +kernel)), sx_mem 307 (by decide +kernel) (by decide +kernel), sx_mem 7 (by decide +kernel) (by decide +kernel), sx_mem 106 (by decide +kernel) (by decide +kernel), sx_mem 308 (by decide +kernel) (by decide +kernel), ⟨by decide +kernel, by decide +kernel⟩, by decide +kernel, _, rfl, rfl⟩
theorem lk_X2_67 : sx_lkS RX2 67 yX2_numbersBehind cX2_numbersBehind 1 (some .int) 1 := ⟨Or.inl (sx_mem 309 (by decide +kernel) (by decide +kernel)), sx_mem 310 (by decide +kernel) (by decide +kernel), sx_mem 106 (by decide +kernel) (by decide +kernel), sx_mem 311 (by decide +kernel) (by decide +kernel), ⟨by decide +kernel, by decide +kernel⟩, by decide +kernel⟩
theorem lk_X2_71 : sx_lkV RX2 71 yX2_readNumber cX2_readNumber 3 (some .int) 0 2 := ⟨Or.inl (sx_mem 312 (by decide +kernel) (by decide +kernel)), sx_mem 314 (by decide +kernel) (by decide +kernel), sx_mem 8 (by decide +kernel) (by decide +kernel), sx_mem 106 (by decide +kernel) (by decide +kernel), sx_mem 315 (by decide +kernel) (by decide +kernel), ⟨by decide +kernel, by decide +kernel⟩, by decide +kernel, _, rfl, rfl⟩
theorem lk_J7_13 : sx_lkS RJ7 13 yJ7_rangeCheck_23922 cJ7_rangeCheck_23922 3 none 3 := ⟨Or.inl (sx_mem 298 (by decide +kernel) (by decide +kernel)), sx_mem 299 (by decide +kernel) (by decide +kernel), sx_mem 115 (by decide +kernel) (by decide +kernel), sx_mem 300 (by decide +kernel) (by decide +kernel), ⟨by decide +kernel, by decide +kernel⟩, by decide +kernel⟩
theorem lk_X3_15 : sx_lkS RX3 15 yJ7_fill_53178 cJ7_fill_53178 4 none 2 := ⟨Or.inl (sx_mem 292 (by decide +kernel) (by decide +kernel)), sx_mem 293 (by decide +kernel) (by decide +kernel), sx_mem 115 (by decide +kernel) (by decide +kernel), sx_mem 294 (by decide +kernel) (by decide +kernel), ⟨by decide +kernel, by decide +kernel⟩, by decide +kernel⟩
theorem lk_X3_21 : sx_lkS RX3 21 yJ7_fill_fda19 cJ7_fill_fda19 5 none 4 := ⟨Or.inl (sx_mem 295 (by decide +kernel) (by decide +kernel)), sx_mem 296 (by decide +kernel) (by decide +kernel), sx_mem 115 (by decide +kernel) (by decide +kernel), sx_mem 297 (by decide +kernel) (by decide +kernel), ⟨by decide +kernel, by decide +kernel⟩, by decide +kernel⟩
theorem lk_X2_50 : sx_lkV RX2 50 yX1_clear cX1_clear 1 none 0 1 := ⟨Or.inr ⟨"TrimmedPeaks", List.mem_of_getElem? (i := 284) (by decide +kernel)⟩, sx_mem 286 (by decide +kernel) (by decide +kernel), sx_mem 4 (by decide +kernel) (by decide +kernel), sx_mem 107 (by decide +kernel) (by decide +kernel), sx_mem 287 (by decide +kernel) (by decide +kernel), ⟨by decide +kernel, by decide +kernel⟩, by decide +kernel, _, rfl, rfl⟩
theorem lk_X2_53 : sx_lkV RX2 53 yX3_clear cX3_clear 1 none 0 3 := ⟨Or.inr ⟨"TrimmedPeaks", List.mem_of_getElem? (i := 288) (by decide +kernel)⟩, sx_mem 290 (by decide +kernel) (by decide +kernel), sx_mem 5 (by decide +kernel) (by decide +kernel), sx_mem 108 (by decide +kernel) (by decide +kernel), sx_mem 291 (by decide +kernel) (by decide +kernel), ⟨by decide +kernel, by decide +kernel⟩, by decide +kernel, _, rfl, rfl⟩
theorem lk_X2_57 : sx_lkV RX2 57 yX2_readItem cX2_readItem 4 (some .boolean) 0 2 := ⟨Or.inl (sx_mem 301 (by decide +kernel) (by decide +kernel)), sx_mem 303 (by decide +kernel) (by decide +kernel), sx_mem 6 (by decide +kernel) (by decide +kernel), sx_mem 106 (by decide +kernel) (by decide +kernel), sx_mem 304 (by decide +kernel) (by decide +kernel), ⟨by decide +kernel, by decide +kernel⟩, by decide +kernel, _, rfl, rfl⟩
theorem lk_X2_64 : sx_lkV RX2 64 yX2_heed cX2_heed 2 (some .boolean) 1 2 := ⟨Or.inl (sx_mem 316 (by decide +kernel) (by decide +kernel)), sx_mem 318 (by decide +kernel) (by decide +kernel), sx_mem 9 (by decide +kernel) (by decide +kernel), sx_mem 106 (by decide +kernel) (by decide +kernel), sx_mem 319 (by decide +kernel) (by decide +kernel), ⟨by decide +kernel, by decide +kernel⟩, by decide +kernel, _, rfl, rfl⟩
theorem nv_X3_24 : sx_nv RX3 24 := ⟨sx_mem 366 (by decide +kernel) (by decide +kernel), sx_mem 361 (by decide +kernel) (by decide +kernel), sx_mem 360 (by decide +kernel) (by decide +kernel), sx_mem 116 (by decide +kernel) (by decide +kernel)⟩
theorem lk_X3_30 : sx_lkV RX3 30 yX3_pinsOn cX3_pinsOn 4 (some .int) 2 3 := ⟨Or.inl (sx_mem 379 (by decide +kernel) (by decide +kernel)), sx_mem 381 (by decide +kernel) (by decide +kernel), sx_mem 22 (by decide +kernel) (by decide +kernel), sx_mem 108 (by decide +kernel) (by decide +kernel), sx_mem 382 (by decide +kernel) (by decide +kernel), ⟨by decide +kernel, by decide +kernel⟩, by decide +kernel, _, rfl, rfl⟩
theorem lk_X3_34 : sx_lkV RX3 34 yX3_isOn cX3_isOn 3 (some .boolean) 2 3 := ⟨Or.inl (sx_mem 375 (by decide +kernel) (by decide +kernel)), sx_mem 377 (by decide +kernel) (by decide +kernel), sx_mem 21 (by decide +kernel) (by decide +kernel), sx_mem 108 (by decide +kernel) (by decide +kernel), sx_mem 378 (by decide +kernel) (by decide +kernel), ⟨by decide +kernel, by decide +kernel⟩, by decide +kernel, _, rfl, rfl⟩
theorem lk_X3_42 : sx_lkV RX3 42 yX3_looksOf cX3_looksOf 4 (some .int) 1 3 := ⟨Or.inl (sx_mem 371 (by decide +kernel) (by decide +kernel)), sx_mem 373 (by decide +kernel) (by decide +kernel), sx_mem 20 (by decide +kernel) (by decide +kernel), sx_mem 108 (by decide +kernel) (by decide +kernel), sx_mem 374 (by decide +kernel) (by decide +kernel), ⟨by decide +kernel, by decide +kernel⟩, by decide +kernel, _, rfl, rfl⟩
theorem lk_X3_46 : sx_lkV RX3 46 yX3_inStore cX3_inStore 2 (some .int) 1 3 := ⟨Or.inl (sx_mem 518 (by decide +kernel) (by decide +kernel)), sx_mem 503 (by decide +kernel) (by decide +kernel), sx_mem 32 (by decide +kernel) (by decide +kernel), sx_mem 108 (by decide +kernel) (by decide +kernel), sx_mem 504 (by decide +kernel) (by decide +kernel), ⟨by decide +kernel, by decide +kernel⟩, by decide +kernel, _, rfl, rfl⟩
theorem lk_X3_49 : sx_lkV RX3 49 yX3_setPins cX3_setPins 5 none 3 3 := ⟨Or.inl (sx_mem 531 (by decide +kernel) (by decide +kernel)), sx_mem 349 (by decide +kernel) (by decide +kernel), sx_mem 15 (by decide +kernel) (by decide +kernel), sx_mem 108 (by decide +kernel) (by decide +kernel), sx_mem 350 (by decide +kernel) (by decide +kernel), ⟨by decide +kernel, by decide +kernel⟩, by decide +kernel, _, rfl, rfl⟩
theorem lk_X3_53 : sx_lkV RX3 53 yX3_setStore cX3_setStore 3 none 2 3 := ⟨Or.inl (sx_mem 532 (by decide +kernel) (by decide +kernel)), sx_mem 333 (by decide +kernel) (by decide +kernel), sx_mem 12 (by decide +kernel) (by decide +kernel), sx_mem 108 (by decide +kernel) (by decide +kernel), sx_mem 334 (by decide +kernel) (by decide +kernel), ⟨by decide +kernel, by decide +kernel⟩, by decide +kernel, _, rfl, rfl⟩
theorem lk_X3_57 : sx_lkV RX3 57 yX3_makeGuides cX3_makeGuides 2 none 0 3 := ⟨Or.inl (sx_mem 558 (by decide +kernel) (by decide +kernel)), sx_mem 369 (by decide +kernel) (by decide +kernel), sx_mem 19 (by decide +kernel) (by decide +kernel), sx_mem 108 (by decide +kernel) (by decide +kernel), sx_mem 370 (by decide +kernel) (by decide +kernel), ⟨by decide +kernel, by decide +kernel⟩, by decide +kernel, _, rfl, rfl⟩
theorem lk_X3_60 : sx_lkV RX3 60 yX3_yearNow cX3_yearNow 1 (some .int) 0 3 := ⟨Or.inl (sx_mem 559 (by decide +kernel) (by decide +kernel)), sx_mem 466 (by decide +kernel) (by decide +kernel), sx_mem 26 (by decide +kernel) (by decide +kernel), sx_mem 108 (by decide +kernel) (by decide +kernel), sx_mem 467 (by decide +kernel) (by decide +kernel), ⟨by decide +kernel, by decide +kernel⟩, by decide +kernel, _, rfl, rfl⟩
theorem lk_X3_64 : sx_lkV RX3 64 yX1_windIn cX1_windIn 2 (some .int) 1 1 := ⟨Or.inr ⟨"TrimmedPeaks", List.mem_of_getElem? (i := 560) (by decide +kernel)⟩, sx_mem 470 (by decide +kernel) (by decide +kernel), sx_mem 27 (by decide +kernel) (by decide +kernel), sx_mem 107 (by decide +kernel) (by decide +kernel), sx_mem 471 (by decide +kernel) (by decide +kernel), ⟨by decide +kernel, by decide +kernel⟩, by decide +kernel, _, rfl, rfl⟩
theorem fl_X3_69 : sx_fl RX3 RX1 69 RX1 TX1 5 1 3 := ⟨rfl, by decide, hin_X1, rfl, Or.inr ⟨"TrimmedPeaks", List.mem_of_getElem? (i := 144) (by decide +kernel)⟩⟩
theorem lk_X3_73 : sx_lkV RX3 73 yX1_forceAt cX1_forceAt 4 (some .int) 2 1 := ⟨Or.inr ⟨"TrimmedPeaks", List.mem_of_getElem? (i := 561) (by decide +kernel)⟩, sx_mem 474 (by decide +kernel) (by decide +kernel), sx_mem 28 (by decide +kernel) (by decide +kernel), sx_mem 107 (by decide +kernel) (by decide +kernel), sx_mem 475 (by decide +kernel) (by decide +kernel), ⟨by decide +kernel, by decide +kernel⟩, by decide +kernel, _, rfl, rfl⟩
theorem lk_X3_76 : sx_lkV RX3 76 yX1_hasGoats cX1_hasGoats 2 (some .boolean) 1 1 := ⟨Or.inr ⟨"TrimmedPeaks", List.mem_of_getElem? (i := 562) (by decide +kernel)⟩, sx_mem 564 (by decide +kernel) (by decide +kernel), sx_mem 39 (by decide +kernel) (by decide +kernel), sx_mem 107 (by decide +kernel) (by decide +kernel), sx_mem 565 (by decide +kernel) (by decide +kernel), ⟨by decide +kernel, by decide +kernel⟩, by decide +kernel, _, rfl, rfl⟩
theorem lk_X3_79 : sx_lkS RX3 79 yX4_weather cX4_weather 5 none 4 := ⟨Or.inr ⟨"TrimmedPeaks", List.mem_of_getElem? (i := 566) (by decide +kernel)⟩, sx_mem 567 (by decide +kernel) (by decide +kernel), sx_mem 105 (by decide +kernel) (by decide +kernel), sx_mem 568 (by decide +kernel) (by decide +kernel), ⟨by decide +kernel, by decide +kernel⟩, by decide +kernel⟩
theorem cs_J6_265 : Cond.constant RJ6 265 1431655765 ∈ sx_gw := sx_mem 637 (by decide +kernel) (by decide +kernel)
theorem cs_J6_266 : Cond.constant RJ6 266 858993459 ∈ sx_gw := sx_mem 638 (by decide +kernel) (by decide +kernel)
theorem cs_J6_267 : Cond.constant RJ6 267 252645135 ∈ sx_gw := sx_mem 639 (by decide +kernel) (by decide +kernel)
theorem lk_X3_83 : sx_lkS RX3 83 yJ6_bitCount_0f7a4 cJ6_bitCount_0f7a4 1 (some .int) 1 := ⟨Or.inl (sx_mem 752 (by decide +kernel) (by decide +kernel)), sx_mem 635 (by decide +kernel) (by decide +kernel), sx_mem 118 (by decide +kernel) (by decide +kernel), sx_mem 636 (by decide +kernel) (by decide +kernel), ⟨by decide +kernel, by decide +kernel⟩, by decide +kernel⟩
theorem mx_X3_88 : sx_mx RX3 88 := ⟨sx_mem 769 (by decide +kernel) (by decide +kernel), sx_mem 203 (by decide +kernel) (by decide +kernel), sx_mem 110 (by decide +kernel) (by decide +kernel), sx_mem 204 (by decide +kernel) (by decide +kernel)⟩
theorem fl_X4_10 : sx_fl RX4 RX4 10 RX4 TX4 13 4 0 := ⟨rfl, by decide, hin_X4, rfl, Or.inl (sx_mem 387 (by decide +kernel) (by decide +kernel))⟩
theorem lk_X4_72 : sx_lkV RX4 72 yX2_append cX2_append 2 (some .boolean) 1 2 := ⟨Or.inr ⟨"TrimmedPeaks", List.mem_of_getElem? (i := 432) (by decide +kernel)⟩, sx_mem 274 (by decide +kernel) (by decide +kernel), sx_mem 1 (by decide +kernel) (by decide +kernel), sx_mem 106 (by decide +kernel) (by decide +kernel), sx_mem 275 (by decide +kernel) (by decide +kernel), ⟨by decide +kernel, by decide +kernel⟩, by decide +kernel, _, rfl, rfl⟩
theorem fl_X4_68 : sx_fl RX4 RX2 68 RX2 TX2 6 2 4 := ⟨rfl, by decide, hin_X2, rfl, Or.inr ⟨"TrimmedPeaks", List.mem_of_getElem? (i := 176) (by decide +kernel)⟩⟩
theorem lk_X4_76 : sx_lkV RX4 76 yX2_readAll cX2_readAll 3 (some .int) 0 2 := ⟨Or.inr ⟨"TrimmedPeaks", List.mem_of_getElem? (i := 280) (by decide +kernel)⟩, sx_mem 282 (by decide +kernel) (by decide +kernel), sx_mem 3 (by decide +kernel) (by decide +kernel), sx_mem 106 (by decide +kernel) (by decide +kernel), sx_mem 283 (by decide +kernel) (by decide +kernel), ⟨by decide +kernel, by decide +kernel⟩, by decide +kernel, _, rfl, rfl⟩
theorem fl_X4_200 : sx_fl RX4 RX4 200 RX4 TX4 13 4 12 := ⟨rfl, by decide, hin_X4, rfl, Or.inl (sx_mem 399 (by decide +kernel) (by decide +kernel))⟩
theorem fl_X4_203 : sx_fl RX4 RX4 203 RX4 TX4 13 4 10 := ⟨rfl, by decide, hin_X4, rfl, Or.inl (sx_mem 397 (by decide +kernel) (by decide +kernel))⟩
theorem fl_X4_206 : sx_fl RX4 RX4 206 RX4 TX4 13 4 11 := ⟨rfl, by decide, hin_X4, rfl, Or.inl (sx_mem 398 (by decide +kernel) (by decide +kernel))⟩
theorem fl_X4_247 : sx_fl RX4 RX2 247 RX2 TX2 6 2 2 := ⟨rfl, by decide, hin_X2, rfl, Or.inr ⟨"TrimmedPeaks", List.mem_of_getElem? (i := 173) (by decide +kernel)⟩⟩
theorem fl_X4_80 : sx_fl RX4 RX1 80 RX1 TX1 5 1 3 := ⟨rfl, by decide, hin_X1, rfl, Or.inr ⟨"TrimmedPeaks", List.mem_of_getElem? (i := 143) (by decide +kernel)⟩⟩
theorem fl_X4_19 : sx_fl RX4 RX4 19 RX4 TX4 13 4 1 := ⟨rfl, by decide, hin_X4, rfl, Or.inl (sx_mem 388 (by decide +kernel) (by decide +kernel))⟩
theorem lk_X4_248 : sx_lkV RX4 248 yX1_become cX1_become 2 none 1 1 := ⟨Or.inr ⟨"TrimmedPeaks", List.mem_of_getElem? (i := 355) (by decide +kernel)⟩, sx_mem 357 (by decide +kernel) (by decide +kernel), sx_mem 17 (by decide +kernel) (by decide +kernel), sx_mem 107 (by decide +kernel) (by decide +kernel), sx_mem 358 (by decide +kernel) (by decide +kernel), ⟨by decide +kernel, by decide +kernel⟩, by decide +kernel, _, rfl, rfl⟩
theorem fl_X4_26 : sx_fl RX4 RX4 26 RX4 TX4 13 4 2 := ⟨rfl, by decide, hin_X4, rfl, Or.inl (sx_mem 389 (by decide +kernel) (by decide +kernel))⟩
theorem fl_X4_250 : sx_fl RX4 RX2 250 RX2 TX2 6 2 3 := ⟨rfl, by decide, hin_X2, rfl, Or.inr ⟨"TrimmedPeaks", List.mem_of_getElem? (i := 175) (by decide +kernel)⟩⟩
theorem lk_X4_176 : sx_lkV RX4 176 yX3_become cX3_become 2 none 1 3 := ⟨Or.inr ⟨"TrimmedPeaks", List.mem_of_getElem? (i := 362) (by decide +kernel)⟩, sx_mem 364 (by decide +kernel) (by decide +kernel), sx_mem 18 (by decide +kernel) (by decide +kernel), sx_mem 108 (by decide +kernel) (by decide +kernel), sx_mem 365 (by decide +kernel) (by decide +kernel), ⟨by decide +kernel, by decide +kernel⟩, by decide +kernel, _, rfl, rfl⟩
theorem lk_X4_253 : sx_lkV RX4 253 yX3_makeGuides cX3_makeGuides 2 none 0 3 := ⟨Or.inr ⟨"TrimmedPeaks", List.mem_of_getElem? (i := 367) (by decide +kernel)⟩, sx_mem 369 (by decide +kernel) (by decide +kernel), sx_mem 19 (by decide +kernel) (by decide +kernel), sx_mem 108 (by decide +kernel) (by decide +kernel), sx_mem 370 (by decide +kernel) (by decide +kernel), ⟨by decide +kernel, by decide +kernel⟩, by decide +kernel, _, rfl, rfl⟩
theorem fl_X4_38 : sx_fl RX4 RX4 38 RX4 TX4 13 4 4 := ⟨rfl, by decide, hin_X4, rfl, Or.inl (sx_mem 391 (by decide +kernel) (by decide +kernel))⟩
theorem fl_X4_158 : sx_fl RX4 RX0 158 RX0 TX0 4 0 2 := ⟨rfl, by decide, hin_X0, rfl, Or.inr ⟨"TrimmedPeaks", List.mem_of_getElem? (i := 208) (by decide +kernel)⟩⟩
theorem fl_X4_42 : sx_fl RX4 RX4 42 RX4 TX4 13 4 5 := ⟨rfl, by decide, hin_X4, rfl, Or.inl (sx_mem 392 (by decide +kernel) (by decide +kernel))⟩
theorem lk_X4_256 : sx_lkV RX4 256 yX4_forget cX4_forget 2 (some .int) 0 4 := ⟨Or.inl (sx_mem 383 (by decide +kernel) (by decide +kernel)), sx_mem 384 (by decide +kernel) (by decide +kernel), sx_mem 385 (by decide +kernel) (by decide +kernel), sx_mem 105 (by decide +kernel) (by decide +kernel), sx_mem 386 (by decide +kernel) (by decide +kernel), ⟨by decide +kernel, by decide +kernel⟩, by decide +kernel, _, rfl, rfl⟩
theorem lk_X4_64 : sx_lkV RX4 64 yX4_layAsTold cX4_layAsTold 1 (some .boolean) 0 4 := ⟨Or.inl (sx_mem 276 (by decide +kernel) (by decide +kernel)), sx_mem 278 (by decide +kernel) (by decide +kernel), sx_mem 2 (by decide +kernel) (by decide +kernel), sx_mem 105 (by decide +kernel) (by decide +kernel), sx_mem 279 (by decide +kernel) (by decide +kernel), ⟨by decide +kernel, by decide +kernel⟩, by decide +kernel, _, rfl, rfl⟩
theorem lk_X4_83 : sx_lkV RX4 83 yX1_isPeak cX1_isPeak 2 (some .boolean) 1 1 := ⟨Or.inr ⟨"TrimmedPeaks", List.mem_of_getElem? (i := 449) (by decide +kernel)⟩, sx_mem 342 (by decide +kernel) (by decide +kernel), sx_mem 14 (by decide +kernel) (by decide +kernel), sx_mem 107 (by decide +kernel) (by decide +kernel), sx_mem 343 (by decide +kernel) (by decide +kernel), ⟨by decide +kernel, by decide +kernel⟩, by decide +kernel, _, rfl, rfl⟩
theorem lk_X4_91 : sx_lkV RX4 91 yX1_heightOf cX1_heightOf 2 (some .int) 1 1 := ⟨Or.inr ⟨"TrimmedPeaks", List.mem_of_getElem? (i := 455) (by decide +kernel)⟩, sx_mem 457 (by decide +kernel) (by decide +kernel), sx_mem 24 (by decide +kernel) (by decide +kernel), sx_mem 107 (by decide +kernel) (by decide +kernel), sx_mem 458 (by decide +kernel) (by decide +kernel), ⟨by decide +kernel, by decide +kernel⟩, by decide +kernel, _, rfl, rfl⟩
theorem lk_X4_140 : sx_lkV RX4 140 yX3_isOn cX3_isOn 3 (some .boolean) 2 3 := ⟨Or.inr ⟨"TrimmedPeaks", List.mem_of_getElem? (i := 486) (by decide +kernel)⟩, sx_mem 377 (by decide +kernel) (by decide +kernel), sx_mem 21 (by decide +kernel) (by decide +kernel), sx_mem 108 (by decide +kernel) (by decide +kernel), sx_mem 378 (by decide +kernel) (by decide +kernel), ⟨by decide +kernel, by decide +kernel⟩, by decide +kernel, _, rfl, rfl⟩
theorem lk_X4_259 : sx_lkV RX4 259 yX4_shadeBy cX4_shadeBy 4 (some .int) 2 4 := ⟨Or.inl (sx_mem 482 (by decide +kernel) (by decide +kernel)), sx_mem 484 (by decide +kernel) (by decide +kernel), sx_mem 30 (by decide +kernel) (by decide +kernel), sx_mem 105 (by decide +kernel) (by decide +kernel), sx_mem 485 (by decide +kernel) (by decide +kernel), ⟨by decide +kernel, by decide +kernel⟩, by decide +kernel, _, rfl, rfl⟩
theorem lk_X4_87 : sx_lkV RX4 87 yX1_kindOf cX1_kindOf 2 (some .int) 1 1 := ⟨Or.inr ⟨"TrimmedPeaks", List.mem_of_getElem? (i := 450) (by decide +kernel)⟩, sx_mem 452 (by decide +kernel) (by decide +kernel), sx_mem 23 (by decide +kernel) (by decide +kernel), sx_mem 107 (by decide +kernel) (by decide +kernel), sx_mem 453 (by decide +kernel) (by decide +kernel), ⟨by decide +kernel, by decide +kernel⟩, by decide +kernel, _, rfl, rfl⟩
theorem lk_X4_94 : sx_lkV RX4 94 yX3_looksOf cX3_looksOf 4 (some .int) 1 3 := ⟨Or.inr ⟨"TrimmedPeaks", List.mem_of_getElem? (i := 459) (by decide +kernel)⟩, sx_mem 373 (by decide +kernel) (by decide +kernel), sx_mem 20 (by decide +kernel) (by decide +kernel), sx_mem 108 (by decide +kernel) (by decide +kernel), sx_mem 374 (by decide +kernel) (by decide +kernel), ⟨by decide +kernel, by decide +kernel⟩, by decide +kernel, _, rfl, rfl⟩
theorem lk_X4_97 : sx_lkV RX4 97 yX3_guideOf cX3_guideOf 2 (some .int) 1 3 := ⟨Or.inr ⟨"TrimmedPeaks", List.mem_of_getElem? (i := 460) (by decide +kernel)⟩, sx_mem 462 (by decide +kernel) (by decide +kernel), sx_mem 25 (by decide +kernel) (by decide +kernel), sx_mem 108 (by decide +kernel) (by decide +kernel), sx_mem 463 (by decide +kernel) (by decide +kernel), ⟨by decide +kernel, by decide +kernel⟩, by decide +kernel, _, rfl, rfl⟩
theorem lk_X4_100 : sx_lkV RX4 100 yX3_yearNow cX3_yearNow 1 (some .int) 0 3 := ⟨Or.inr ⟨"TrimmedPeaks", List.mem_of_getElem? (i := 464) (by decide +kernel)⟩, sx_mem 466 (by decide +kernel) (by decide +kernel), sx_mem 26 (by decide +kernel) (by decide +kernel), sx_mem 108 (by decide +kernel) (by decide +kernel), sx_mem 467 (by decide +kernel) (by decide +kernel), ⟨by decide +kernel, by decide +kernel⟩, by decide +kernel, _, rfl, rfl⟩
theorem lk_X4_103 : sx_lkV RX4 103 yX1_windIn cX1_windIn 2 (some .int) 1 1 := ⟨Or.inr ⟨"TrimmedPeaks", List.mem_of_getElem? (i := 468) (by decide +kernel)⟩, sx_mem 470 (by decide +kernel) (by decide +kernel), sx_mem 27 (by decide +kernel) (by decide +kernel), sx_mem 107 (by decide +kernel) (by decide +kernel), sx_mem 471 (by decide +kernel) (by decide +kernel), ⟨by decide +kernel, by decide +kernel⟩, by decide +kernel, _, rfl, rfl⟩
theorem lk_X4_106 : sx_lkV RX4 106 yX1_forceAt cX1_forceAt 4 (some .int) 2 1 := ⟨Or.inr ⟨"TrimmedPeaks", List.mem_of_getElem? (i := 472) (by decide +kernel)⟩, sx_mem 474 (by decide +kernel) (by decide +kernel), sx_mem 28 (by decide +kernel) (by decide +kernel), sx_mem 107 (by decide +kernel) (by decide +kernel), sx_mem 475 (by decide +kernel) (by decide +kernel), ⟨by decide +kernel, by decide +kernel⟩, by decide +kernel, _, rfl, rfl⟩
theorem lk_X4_110 : sx_lkV RX4 110 yX4_lightOf cX4_lightOf 2 (some .int) 1 4 := ⟨Or.inl (sx_mem 478 (by decide +kernel) (by decide +kernel)), sx_mem 480 (by decide +kernel) (by decide +kernel), sx_mem 29 (by decide +kernel) (by decide +kernel), sx_mem 105 (by decide +kernel) (by decide +kernel), sx_mem 481 (by decide +kernel) (by decide +kernel), ⟨by decide +kernel, by decide +kernel⟩, by decide +kernel, _, rfl, rfl⟩
theorem lk_X4_120 : sx_lkS RX4 120 yX4_isTrimming cX4_isTrimming 1 (some .boolean) 1 := ⟨Or.inl (sx_mem 495 (by decide +kernel) (by decide +kernel)), sx_mem 329 (by decide +kernel) (by decide +kernel), sx_mem 105 (by decide +kernel) (by decide +kernel), sx_mem 330 (by decide +kernel) (by decide +kernel), ⟨by decide +kernel, by decide +kernel⟩, by decide +kernel⟩
theorem lk_X4_113 : sx_lkV RX4 113 yX4_isPlace cX4_isPlace 3 (some .boolean) 2 4 := ⟨Or.inl (sx_mem 491 (by decide +kernel) (by decide +kernel)), sx_mem 493 (by decide +kernel) (by decide +kernel), sx_mem 31 (by decide +kernel) (by decide +kernel), sx_mem 105 (by decide +kernel) (by decide +kernel), sx_mem 494 (by decide +kernel) (by decide +kernel), ⟨by decide +kernel, by decide +kernel⟩, by decide +kernel, _, rfl, rfl⟩
theorem lk_X4_117 : sx_lkV RX4 117 yX3_pinsOn cX3_pinsOn 4 (some .int) 2 3 := ⟨Or.inr ⟨"TrimmedPeaks", List.mem_of_getElem? (i := 496) (by decide +kernel)⟩, sx_mem 381 (by decide +kernel) (by decide +kernel), sx_mem 22 (by decide +kernel) (by decide +kernel), sx_mem 108 (by decide +kernel) (by decide +kernel), sx_mem 382 (by decide +kernel) (by decide +kernel), ⟨by decide +kernel, by decide +kernel⟩, by decide +kernel, _, rfl, rfl⟩
theorem lk_X4_123 : sx_lkV RX4 123 yX3_inStore cX3_inStore 2 (some .int) 1 3 := ⟨Or.inr ⟨"TrimmedPeaks", List.mem_of_getElem? (i := 501) (by decide +kernel)⟩, sx_mem 503 (by decide +kernel) (by decide +kernel), sx_mem 32 (by decide +kernel) (by decide +kernel), sx_mem 108 (by decide +kernel) (by decide +kernel), sx_mem 504 (by decide +kernel) (by decide +kernel), ⟨by decide +kernel, by decide +kernel⟩, by decide +kernel, _, rfl, rfl⟩
theorem lk_X4_126 : sx_lkS RX4 126 yX4_isPins cX4_isPins 1 (some .boolean) 1 := ⟨Or.inl (sx_mem 513 (by decide +kernel) (by decide +kernel)), sx_mem 345 (by decide +kernel) (by decide +kernel), sx_mem 105 (by decide +kernel) (by decide +kernel), sx_mem 346 (by decide +kernel) (by decide +kernel), ⟨by decide +kernel, by decide +kernel⟩, by decide +kernel⟩
theorem lk_X4_129 : sx_lkV RX4 129 yX3_canPut cX3_canPut 3 (some .boolean) 2 3 := ⟨Or.inr ⟨"TrimmedPeaks", List.mem_of_getElem? (i := 514) (by decide +kernel)⟩, sx_mem 516 (by decide +kernel) (by decide +kernel), sx_mem 33 (by decide +kernel) (by decide +kernel), sx_mem 108 (by decide +kernel) (by decide +kernel), sx_mem 517 (by decide +kernel) (by decide +kernel), ⟨by decide +kernel, by decide +kernel⟩, by decide +kernel, _, rfl, rfl⟩
theorem lk_X4_132 : sx_lkV RX4 132 yX0_layBy cX0_layBy 2 none 1 0 := ⟨Or.inr ⟨"TrimmedPeaks", List.mem_of_getElem? (i := 519) (by decide +kernel)⟩, sx_mem 521 (by decide +kernel) (by decide +kernel), sx_mem 34 (by decide +kernel) (by decide +kernel), sx_mem 109 (by decide +kernel) (by decide +kernel), sx_mem 522 (by decide +kernel) (by decide +kernel), ⟨by decide +kernel, by decide +kernel⟩, by decide +kernel, _, rfl, rfl⟩
theorem lk_X4_136 : sx_lkV RX4 136 yX3_putOn cX3_putOn 4 none 3 3 := ⟨Or.inr ⟨"TrimmedPeaks", List.mem_of_getElem? (i := 527) (by decide +kernel)⟩, sx_mem 529 (by decide +kernel) (by decide +kernel), sx_mem 35 (by decide +kernel) (by decide +kernel), sx_mem 108 (by decide +kernel) (by decide +kernel), sx_mem 530 (by decide +kernel) (by decide +kernel), ⟨by decide +kernel, by decide +kernel⟩, by decide +kernel, _, rfl, rfl⟩
theorem lk_X4_143 : sx_lkV RX4 143 yX3_takeOff cX3_takeOff 3 none 2 3 := ⟨Or.inr ⟨"TrimmedPeaks", List.mem_of_getElem? (i := 537) (by decide +kernel)⟩, sx_mem 539 (by decide +kernel) (by decide +kernel), sx_mem 36 (by decide +kernel) (by decide +kernel), sx_mem 108 (by decide +kernel) (by decide +kernel), sx_mem 540 (by decide +kernel) (by decide +kernel), ⟨by decide +kernel, by decide +kernel⟩, by decide +kernel, _, rfl, rfl⟩
theorem lk_X4_147 : sx_lkV RX4 147 yX3_setPins cX3_setPins 5 none 3 3 := ⟨Or.inr ⟨"TrimmedPeaks", List.mem_of_getElem? (i := 545) (by decide +kernel)⟩, sx_mem 349 (by decide +kernel) (by decide +kernel), sx_mem 15 (by decide +kernel) (by decide +kernel), sx_mem 108 (by decide +kernel) (by decide +kernel), sx_mem 350 (by decide +kernel) (by decide +kernel), ⟨by decide +kernel, by decide +kernel⟩, by decide +kernel, _, rfl, rfl⟩
theorem lk_X4_179 : sx_lkV RX4 179 yX3_letYearGoBy cX3_letYearGoBy 4 none 1 3 := ⟨Or.inr ⟨"TrimmedPeaks", List.mem_of_getElem? (i := 554) (by decide +kernel)⟩, sx_mem 556 (by decide +kernel) (by decide +kernel), sx_mem 38 (by decide +kernel) (by decide +kernel), sx_mem 108 (by decide +kernel) (by decide +kernel), sx_mem 557 (by decide +kernel) (by decide +kernel), ⟨by decide +kernel, by decide +kernel⟩, by decide +kernel, _, rfl, rfl⟩
theorem lk_X4_150 : sx_lkV RX4 150 yX4_letYearsGoBy cX4_letYearsGoBy 4 none 2 4 := ⟨Or.inl (sx_mem 550 (by decide +kernel) (by decide +kernel)), sx_mem 552 (by decide +kernel) (by decide +kernel), sx_mem 37 (by decide +kernel) (by decide +kernel), sx_mem 105 (by decide +kernel) (by decide +kernel), sx_mem 553 (by decide +kernel) (by decide +kernel), ⟨by decide +kernel, by decide +kernel⟩, by decide +kernel, _, rfl, rfl⟩
theorem lk_X4_154 : sx_lkV RX4 154 yX0_fetch cX0_fetch 2 (some .boolean) 1 0 := ⟨Or.inr ⟨"TrimmedPeaks", List.mem_of_getElem? (i := 573) (by decide +kernel)⟩, sx_mem 575 (by decide +kernel) (by decide +kernel), sx_mem 40 (by decide +kernel) (by decide +kernel), sx_mem 109 (by decide +kernel) (by decide +kernel), sx_mem 576 (by decide +kernel) (by decide +kernel), ⟨by decide +kernel, by decide +kernel⟩, by decide +kernel, _, rfl, rfl⟩
theorem fl_X4_45 : sx_fl RX4 RX4 45 RX4 TX4 13 4 6 := ⟨rfl, by decide, hin_X4, rfl, Or.inl (sx_mem 393 (by decide +kernel) (by decide +kernel))⟩
theorem lk_X4_161 : sx_lkS RX4 161 yX4_isZeroOrOne cX4_isZeroOrOne 1 (some .boolean) 1 := ⟨Or.inl (sx_mem 581 (by decide +kernel) (by decide +kernel)), sx_mem 582 (by decide +kernel) (by decide +kernel), sx_mem 105 (by decide +kernel) (by decide +kernel), sx_mem 583 (by decide +kernel) (by decide +kernel), ⟨by decide +kernel, by decide +kernel⟩, by decide +kernel⟩
theorem lk_X4_164 : sx_lkV RX4 164 yX4_lookAt cX4_lookAt 3 none 1 4 := ⟨Or.inl (sx_mem 584 (by decide +kernel) (by decide +kernel)), sx_mem 586 (by decide +kernel) (by decide +kernel), sx_mem 41 (by decide +kernel) (by decide +kernel), sx_mem 105 (by decide +kernel) (by decide +kernel), sx_mem 587 (by decide +kernel) (by decide +kernel), ⟨by decide +kernel, by decide +kernel⟩, by decide +kernel, _, rfl, rfl⟩
theorem lk_X4_167 : sx_lkV RX4 167 yX4_pairsAlike cX4_pairsAlike 5 (some .int) 1 4 := ⟨Or.inl (sx_mem 588 (by decide +kernel) (by decide +kernel)), sx_mem 590 (by decide +kernel) (by decide +kernel), sx_mem 42 (by decide +kernel) (by decide +kernel), sx_mem 105 (by decide +kernel) (by decide +kernel), sx_mem 591 (by decide +kernel) (by decide +kernel), ⟨by decide +kernel, by decide +kernel⟩, by decide +kernel, _, rfl, rfl⟩
theorem lk_X4_170 : sx_lkV RX4 170 yX4_firstPairAlike cX4_firstPairAlike 3 (some .int) 0 4 := ⟨Or.inl (sx_mem 592 (by decide +kernel) (by decide +kernel)), sx_mem 594 (by decide +kernel) (by decide +kernel), sx_mem 43 (by decide +kernel) (by decide +kernel), sx_mem 105 (by decide +kernel) (by decide +kernel), sx_mem 595 (by decide +kernel) (by decide +kernel), ⟨by decide +kernel, by decide +kernel⟩, by decide +kernel, _, rfl, rfl⟩
theorem lk_X4_173 : sx_lkV RX4 173 yX4_knownBy cX4_knownBy 3 (some .int) 1 4 := ⟨Or.inl (sx_mem 600 (by decide +kernel) (by decide +kernel)), sx_mem 602 (by decide +kernel) (by decide +kernel), sx_mem 44 (by decide +kernel) (by decide +kernel), sx_mem 105 (by decide +kernel) (by decide +kernel), sx_mem 603 (by decide +kernel) (by decide +kernel), ⟨by decide +kernel, by decide +kernel⟩, by decide +kernel, _, rfl, rfl⟩
theorem fl_X4_30 : sx_fl RX4 RX4 30 RX4 TX4 13 4 3 := ⟨rfl, by decide, hin_X4, rfl, Or.inl (sx_mem 390 (by decide +kernel) (by decide +kernel))⟩
theorem mx_X4_268 : sx_mx RX4 268 := ⟨sx_mem 625 (by decide +kernel) (by decide +kernel), sx_mem 203 (by decide +kernel) (by decide +kernel), sx_mem 110 (by decide +kernel) (by decide +kernel), sx_mem 204 (by decide +kernel) (by decide +kernel)⟩
theorem lk_X4_262 : sx_lkV RX4 262 yX1_hasGoats cX1_hasGoats 2 (some .boolean) 1 1 := ⟨Or.inr ⟨"TrimmedPeaks", List.mem_of_getElem? (i := 620) (by decide +kernel)⟩, sx_mem 564 (by decide +kernel) (by decide +kernel), sx_mem 39 (by decide +kernel) (by decide +kernel), sx_mem 107 (by decide +kernel) (by decide +kernel), sx_mem 565 (by decide +kernel) (by decide +kernel), ⟨by decide +kernel, by decide +kernel⟩, by decide +kernel, _, rfl, rfl⟩
theorem lk_X4_265 : sx_lkV RX4 265 yX4_pinsToHold cX4_pinsToHold 7 (some .int) 3 4 := ⟨Or.inl (sx_mem 621 (by decide +kernel) (by decide +kernel)), sx_mem 623 (by decide +kernel) (by decide +kernel), sx_mem 46 (by decide +kernel) (by decide +kernel), sx_mem 105 (by decide +kernel) (by decide +kernel), sx_mem 624 (by decide +kernel) (by decide +kernel), ⟨by decide +kernel, by decide +kernel⟩, by decide +kernel, _, rfl, rfl⟩
theorem lk_X4_183 : sx_lkV RX4 183 yX4_pinsMoreAt cX4_pinsMoreAt 6 (some .int) 2 4 := ⟨Or.inl (sx_mem 616 (by decide +kernel) (by decide +kernel)), sx_mem 618 (by decide +kernel) (by decide +kernel), sx_mem 45 (by decide +kernel) (by decide +kernel), sx_mem 105 (by decide +kernel) (by decide +kernel), sx_mem 619 (by decide +kernel) (by decide +kernel), ⟨by decide +kernel, by decide +kernel⟩, by decide +kernel, _, rfl, rfl⟩
theorem lk_X4_189 : sx_lkS RX4 189 yJ6_bitCount_0f7a4 cJ6_bitCount_0f7a4 1 (some .int) 1 := ⟨Or.inl (sx_mem 634 (by decide +kernel) (by decide +kernel)), sx_mem 635 (by decide +kernel) (by decide +kernel), sx_mem 118 (by decide +kernel) (by decide +kernel), sx_mem 636 (by decide +kernel) (by decide +kernel), ⟨by decide +kernel, by decide +kernel⟩, by decide +kernel⟩
theorem lk_X4_186 : sx_lkV RX4 186 yX4_smallestTellingSet cX4_smallestTellingSet 4 (some .int) 0 4 := ⟨Or.inl (sx_mem 630 (by decide +kernel) (by decide +kernel)), sx_mem 632 (by decide +kernel) (by decide +kernel), sx_mem 47 (by decide +kernel) (by decide +kernel), sx_mem 105 (by decide +kernel) (by decide +kernel), sx_mem 633 (by decide +kernel) (by decide +kernel), ⟨by decide +kernel, by decide +kernel⟩, by decide +kernel, _, rfl, rfl⟩
theorem lk_X4_285 : sx_lkV RX4 285 yX4_turn cX4_turn 2 none 1 4 := ⟨Or.inl (sx_mem 660 (by decide +kernel) (by decide +kernel)), sx_mem 662 (by decide +kernel) (by decide +kernel), sx_mem 52 (by decide +kernel) (by decide +kernel), sx_mem 105 (by decide +kernel) (by decide +kernel), sx_mem 663 (by decide +kernel) (by decide +kernel), ⟨by decide +kernel, by decide +kernel⟩, by decide +kernel, _, rfl, rfl⟩
theorem lk_X4_279 : sx_lkV RX4 279 yX4_canPutAt cX4_canPutAt 2 (some .boolean) 1 4 := ⟨Or.inl (sx_mem 652 (by decide +kernel) (by decide +kernel)), sx_mem 654 (by decide +kernel) (by decide +kernel), sx_mem 50 (by decide +kernel) (by decide +kernel), sx_mem 105 (by decide +kernel) (by decide +kernel), sx_mem 655 (by decide +kernel) (by decide +kernel), ⟨by decide +kernel, by decide +kernel⟩, by decide +kernel, _, rfl, rfl⟩
theorem lk_X4_282 : sx_lkV RX4 282 yX4_isApartWith cX4_isApartWith 3 (some .boolean) 1 4 := ⟨Or.inl (sx_mem 656 (by decide +kernel) (by decide +kernel)), sx_mem 658 (by decide +kernel) (by decide +kernel), sx_mem 51 (by decide +kernel) (by decide +kernel), sx_mem 105 (by decide +kernel) (by decide +kernel), sx_mem 659 (by decide +kernel) (by decide +kernel), ⟨by decide +kernel, by decide +kernel⟩, by decide +kernel, _, rfl, rfl⟩
theorem fl_X4_49 : sx_fl RX4 RX4 49 RX4 TX4 13 4 7 := ⟨rfl, by decide, hin_X4, rfl, Or.inl (sx_mem 394 (by decide +kernel) (by decide +kernel))⟩
theorem lk_X4_288 : sx_lkV RX4 288 yX4_findSecondAdded cX4_findSecondAdded 5 (some .boolean) 1 4 := ⟨Or.inl (sx_mem 668 (by decide +kernel) (by decide +kernel)), sx_mem 670 (by decide +kernel) (by decide +kernel), sx_mem 54 (by decide +kernel) (by decide +kernel), sx_mem 105 (by decide +kernel) (by decide +kernel), sx_mem 671 (by decide +kernel) (by decide +kernel), ⟨by decide +kernel, by decide +kernel⟩, by decide +kernel, _, rfl, rfl⟩
theorem lk_X4_273 : sx_lkV RX4 273 yX4_isOneAddedEnough cX4_isOneAddedEnough 2 (some .boolean) 0 4 := ⟨Or.inl (sx_mem 648 (by decide +kernel) (by decide +kernel)), sx_mem 650 (by decide +kernel) (by decide +kernel), sx_mem 49 (by decide +kernel) (by decide +kernel), sx_mem 105 (by decide +kernel) (by decide +kernel), sx_mem 651 (by decide +kernel) (by decide +kernel), ⟨by decide +kernel, by decide +kernel⟩, by decide +kernel, _, rfl, rfl⟩
theorem lk_X4_276 : sx_lkV RX4 276 yX4_areTwoAddedEnough cX4_areTwoAddedEnough 3 (some .boolean) 0 4 := ⟨Or.inl (sx_mem 664 (by decide +kernel) (by decide +kernel)), sx_mem 666 (by decide +kernel) (by decide +kernel), sx_mem 53 (by decide +kernel) (by decide +kernel), sx_mem 105 (by decide +kernel) (by decide +kernel), sx_mem 667 (by decide +kernel) (by decide +kernel), ⟨by decide +kernel, by decide +kernel⟩, by decide +kernel, _, rfl, rfl⟩
theorem lk_X4_194 : sx_lkV RX4 194 yX4_searchAdded cX4_searchAdded 1 (some .int) 0 4 := ⟨Or.inl (sx_mem 644 (by decide +kernel) (by decide +kernel)), sx_mem 646 (by decide +kernel) (by decide +kernel), sx_mem 48 (by decide +kernel) (by decide +kernel), sx_mem 105 (by decide +kernel) (by decide +kernel), sx_mem 647 (by decide +kernel) (by decide +kernel), ⟨by decide +kernel, by decide +kernel⟩, by decide +kernel, _, rfl, rfl⟩
theorem lk_X4_197 : sx_lkS RX4 197 yX4_tenTimesPeakAndTrimming cX4_tenTimesPeakAndTrimming 1 (some .int) 1 := ⟨Or.inl (sx_mem 672 (by decide +kernel) (by decide +kernel)), sx_mem 673 (by decide +kernel) (by decide +kernel), sx_mem 105 (by decide +kernel) (by decide +kernel), sx_mem 674 (by decide +kernel) (by decide +kernel), ⟨by decide +kernel, by decide +kernel⟩, by decide +kernel⟩
theorem lk_X4_215 : sx_lkV RX4 215 yX4_greaterPart cX4_greaterPart 5 (some .int) 2 4 := ⟨Or.inl (sx_mem 693 (by decide +kernel) (by decide +kernel)), sx_mem 695 (by decide +kernel) (by decide +kernel), sx_mem 56 (by decide +kernel) (by decide +kernel), sx_mem 105 (by decide +kernel) (by decide +kernel), sx_mem 696 (by decide +kernel) (by decide +kernel), ⟨by decide +kernel, by decide +kernel⟩, by decide +kernel, _, rfl, rfl⟩
theorem lk_X4_209 : sx_lkV RX4 209 yX4_which cX4_which 4 (some .int) 0 4 := ⟨Or.inl (sx_mem 688 (by decide +kernel) (by decide +kernel)), sx_mem 681 (by decide +kernel) (by decide +kernel), sx_mem 682 (by decide +kernel) (by decide +kernel), sx_mem 105 (by decide +kernel) (by decide +kernel), sx_mem 683 (by decide +kernel) (by decide +kernel), ⟨by decide +kernel, by decide +kernel⟩, by decide +kernel, _, rfl, rfl⟩
theorem lk_X4_212 : sx_lkV RX4 212 yX4_bestToAsk cX4_bestToAsk 5 (some .int) 1 4 := ⟨Or.inl (sx_mem 689 (by decide +kernel) (by decide +kernel)), sx_mem 691 (by decide +kernel) (by decide +kernel), sx_mem 55 (by decide +kernel) (by decide +kernel), sx_mem 105 (by decide +kernel) (by decide +kernel), sx_mem 692 (by decide +kernel) (by decide +kernel), ⟨by decide +kernel, by decide +kernel⟩, by decide +kernel, _, rfl, rfl⟩
theorem lk_X4_291 : sx_lkV RX4 291 yX4_fitsGuideOf cX4_fitsGuideOf 3 (some .boolean) 2 4 := ⟨Or.inl (sx_mem 705 (by decide +kernel) (by decide +kernel)), sx_mem 707 (by decide +kernel) (by decide +kernel), sx_mem 58 (by decide +kernel) (by decide +kernel), sx_mem 105 (by decide +kernel) (by decide +kernel), sx_mem 708 (by decide +kernel) (by decide +kernel), ⟨by decide +kernel, by decide +kernel⟩, by decide +kernel, _, rfl, rfl⟩
theorem fl_X4_52 : sx_fl RX4 RX4 52 RX4 TX4 13 4 8 := ⟨rfl, by decide, hin_X4, rfl, Or.inl (sx_mem 395 (by decide +kernel) (by decide +kernel))⟩
theorem lk_X4_294 : sx_lkV RX4 294 yX4_lowestGuideFor cX4_lowestGuideFor 5 (some .int) 2 4 := ⟨Or.inl (sx_mem 713 (by decide +kernel) (by decide +kernel)), sx_mem 715 (by decide +kernel) (by decide +kernel), sx_mem 60 (by decide +kernel) (by decide +kernel), sx_mem 105 (by decide +kernel) (by decide +kernel), sx_mem 716 (by decide +kernel) (by decide +kernel), ⟨by decide +kernel, by decide +kernel⟩, by decide +kernel, _, rfl, rfl⟩
theorem lk_X4_218 : sx_lkV RX4 218 yX4_countWays cX4_countWays 5 none 0 4 := ⟨Or.inl (sx_mem 701 (by decide +kernel) (by decide +kernel)), sx_mem 703 (by decide +kernel) (by decide +kernel), sx_mem 57 (by decide +kernel) (by decide +kernel), sx_mem 105 (by decide +kernel) (by decide +kernel), sx_mem 704 (by decide +kernel) (by decide +kernel), ⟨by decide +kernel, by decide +kernel⟩, by decide +kernel, _, rfl, rfl⟩
theorem lk_X4_221 : sx_lkV RX4 221 yX4_guideInFirstWay cX4_guideInFirstWay 5 (some .int) 1 4 := ⟨Or.inl (sx_mem 709 (by decide +kernel) (by decide +kernel)), sx_mem 711 (by decide +kernel) (by decide +kernel), sx_mem 59 (by decide +kernel) (by decide +kernel), sx_mem 105 (by decide +kernel) (by decide +kernel), sx_mem 712 (by decide +kernel) (by decide +kernel), ⟨by decide +kernel, by decide +kernel⟩, by decide +kernel, _, rfl, rfl⟩
theorem fl_X4_55 : sx_fl RX4 RX4 55 RX4 TX4 13 4 9 := ⟨rfl, by decide, hin_X4, rfl, Or.inl (sx_mem 396 (by decide +kernel) (by decide +kernel))⟩
theorem nv_X4_301 : sx_nv RX4 301 := ⟨sx_mem 729 (by decide +kernel) (by decide +kernel), sx_mem 361 (by decide +kernel) (by decide +kernel), sx_mem 360 (by decide +kernel) (by decide +kernel), sx_mem 116 (by decide +kernel) (by decide +kernel)⟩
theorem lk_X4_307 : sx_lkS RX4 307 yX4_weather cX4_weather 5 none 4 := ⟨Or.inl (sx_mem 730 (by decide +kernel) (by decide +kernel)), sx_mem 567 (by decide +kernel) (by decide +kernel), sx_mem 105 (by decide +kernel) (by decide +kernel), sx_mem 568 (by decide +kernel) (by decide +kernel), ⟨by decide +kernel, by decide +kernel⟩, by decide +kernel⟩
theorem lk_X4_297 : sx_lkV RX4 297 yX4_blowGust cX4_blowGust 5 (some .boolean) 3 4 := ⟨Or.inl (sx_mem 725 (by decide +kernel) (by decide +kernel)), sx_mem 727 (by decide +kernel) (by decide +kernel), sx_mem 62 (by decide +kernel) (by decide +kernel), sx_mem 105 (by decide +kernel) (by decide +kernel), sx_mem 728 (by decide +kernel) (by decide +kernel), ⟨by decide +kernel, by decide +kernel⟩, by decide +kernel, _, rfl, rfl⟩
theorem lk_X4_224 : sx_lkV RX4 224 yX4_waysToStay cX4_waysToStay 7 (some .int) 5 4 := ⟨Or.inl (sx_mem 721 (by decide +kernel) (by decide +kernel)), sx_mem 723 (by decide +kernel) (by decide +kernel), sx_mem 61 (by decide +kernel) (by decide +kernel), sx_mem 105 (by decide +kernel) (by decide +kernel), sx_mem 724 (by decide +kernel) (by decide +kernel), ⟨by decide +kernel, by decide +kernel⟩, by decide +kernel, _, rfl, rfl⟩
theorem lk_X4_228 : sx_lkS RX4 228 yX4_inLowestTerms cX4_inLowestTerms 6 (some .int) 3 := ⟨Or.inl (sx_mem 731 (by decide +kernel) (by decide +kernel)), sx_mem 732 (by decide +kernel) (by decide +kernel), sx_mem 105 (by decide +kernel) (by decide +kernel), sx_mem 733 (by decide +kernel) (by decide +kernel), ⟨by decide +kernel, by decide +kernel⟩, by decide +kernel⟩
theorem cs_X4_311 : Cond.constantLong RX4 311 7919 ∈ sx_gw := sx_mem 741 (by decide +kernel) (by decide +kernel)
theorem cs_X4_313 : Cond.constantLong RX4 313 6151 ∈ sx_gw := sx_mem 742 (by decide +kernel) (by decide +kernel)
theorem cs_X4_315 : Cond.constantLong RX4 315 65521 ∈ sx_gw := sx_mem 743 (by decide +kernel) (by decide +kernel)
theorem lk_X4_232 : sx_lkS RX4 232 yX4_drawOf cX4_drawOf 4 (some .int) 2 := ⟨Or.inl (sx_mem 738 (by decide +kernel) (by decide +kernel)), sx_mem 739 (by decide +kernel) (by decide +kernel), sx_mem 105 (by decide +kernel) (by decide +kernel), sx_mem 740 (by decide +kernel) (by decide +kernel), ⟨by decide +kernel, by decide +kernel⟩, by decide +kernel⟩
theorem lk_X4_235 : sx_lkV RX4 235 yX4_trimByDraw cX4_trimByDraw 7 none 2 4 := ⟨Or.inl (sx_mem 744 (by decide +kernel) (by decide +kernel)), sx_mem 746 (by decide +kernel) (by decide +kernel), sx_mem 63 (by decide +kernel) (by decide +kernel), sx_mem 105 (by decide +kernel) (by decide +kernel), sx_mem 747 (by decide +kernel) (by decide +kernel), ⟨by decide +kernel, by decide +kernel⟩, by decide +kernel, _, rfl, rfl⟩
theorem lk_X4_238 : sx_lkV RX4 238 yX3_trimmingsOn cX3_trimmingsOn 3 (some .int) 0 3 := ⟨Or.inr ⟨"TrimmedPeaks", List.mem_of_getElem? (i := 748) (by decide +kernel)⟩, sx_mem 750 (by decide +kernel) (by decide +kernel), sx_mem 64 (by decide +kernel) (by decide +kernel), sx_mem 108 (by decide +kernel) (by decide +kernel), sx_mem 751 (by decide +kernel) (by decide +kernel), ⟨by decide +kernel, by decide +kernel⟩, by decide +kernel, _, rfl, rfl⟩
theorem lk_X4_241 : sx_lkV RX4 241 yX3_sumOf cX3_sumOf 5 (some .int) 2 3 := ⟨Or.inr ⟨"TrimmedPeaks", List.mem_of_getElem? (i := 765) (by decide +kernel)⟩, sx_mem 767 (by decide +kernel) (by decide +kernel), sx_mem 65 (by decide +kernel) (by decide +kernel), sx_mem 108 (by decide +kernel) (by decide +kernel), sx_mem 768 (by decide +kernel) (by decide +kernel), ⟨by decide +kernel, by decide +kernel⟩, by decide +kernel, _, rfl, rfl⟩
theorem lk_X4_244 : sx_lkV RX4 244 yX4_peaksKnownAsThemselves cX4_peaksKnownAsThemselves 3 (some .int) 0 4 := ⟨Or.inl (sx_mem 770 (by decide +kernel) (by decide +kernel)), sx_mem 772 (by decide +kernel) (by decide +kernel), sx_mem 66 (by decide +kernel) (by decide +kernel), sx_mem 105 (by decide +kernel) (by decide +kernel), sx_mem 773 (by decide +kernel) (by decide +kernel), ⟨by decide +kernel, by decide +kernel⟩, by decide +kernel, _, rfl, rfl⟩
theorem fl_X5_9 : sx_fl RX5 RX5 9 RX5 TX5 30 5 2 := ⟨rfl, by decide, hin_X5, rfl, Or.inl (sx_mem 794 (by decide +kernel) (by decide +kernel))⟩
theorem fl_X5_78 : sx_fl RX5 RX5 78 RX5 TX5 30 5 0 := ⟨rfl, by decide, hin_X5, rfl, Or.inl (sx_mem 792 (by decide +kernel) (by decide +kernel))⟩
theorem fl_X5_13 : sx_fl RX5 RX5 13 RX5 TX5 30 5 3 := ⟨rfl, by decide, hin_X5, rfl, Or.inl (sx_mem 795 (by decide +kernel) (by decide +kernel))⟩
theorem lk_X5_81 : sx_lkS RX5 81 yX5_in cX5_in 3 (some .boolean) 3 := ⟨Or.inl (sx_mem 887 (by decide +kernel) (by decide +kernel)), sx_mem 888 (by decide +kernel) (by decide +kernel), sx_mem 117 (by decide +kernel) (by decide +kernel), sx_mem 889 (by decide +kernel) (by decide +kernel), ⟨by decide +kernel, by decide +kernel⟩, by decide +kernel⟩
theorem fl_X5_19 : sx_fl RX5 RX5 19 RX5 TX5 30 5 6 := ⟨rfl, by decide, hin_X5, rfl, Or.inl (sx_mem 798 (by decide +kernel) (by decide +kernel))⟩
theorem fl_X5_25 : sx_fl RX5 RX5 25 RX5 TX5 30 5 8 := ⟨rfl, by decide, hin_X5, rfl, Or.inl (sx_mem 800 (by decide +kernel) (by decide +kernel))⟩
theorem lk_X5_85 : sx_lkV RX5 85 yX5_looks cX5_looks 4 (some .int) 1 5 := ⟨Or.inl (sx_mem 788 (by decide +kernel) (by decide +kernel)), sx_mem 790 (by decide +kernel) (by decide +kernel), sx_mem 69 (by decide +kernel) (by decide +kernel), sx_mem 117 (by decide +kernel) (by decide +kernel), sx_mem 791 (by decide +kernel) (by decide +kernel), ⟨by decide +kernel, by decide +kernel⟩, by decide +kernel, _, rfl, rfl⟩
theorem fl_X5_89 : sx_fl RX5 RX5 89 RX5 TX5 30 5 13 := ⟨rfl, by decide, hin_X5, rfl, Or.inl (sx_mem 805 (by decide +kernel) (by decide +kernel))⟩
theorem fl_X5_34 : sx_fl RX5 RX5 34 RX5 TX5 30 5 12 := ⟨rfl, by decide, hin_X5, rfl, Or.inl (sx_mem 804 (by decide +kernel) (by decide +kernel))⟩
theorem fl_X5_92 : sx_fl RX5 RX5 92 RX5 TX5 30 5 14 := ⟨rfl, by decide, hin_X5, rfl, Or.inl (sx_mem 806 (by decide +kernel) (by decide +kernel))⟩
theorem lk_X5_95 : sx_lkV RX5 95 yX5_here cX5_here 1 (some .int) 0 5 := ⟨Or.inl (sx_mem 902 (by decide +kernel) (by decide +kernel)), sx_mem 904 (by decide +kernel) (by decide +kernel), sx_mem 71 (by decide +kernel) (by decide +kernel), sx_mem 117 (by decide +kernel) (by decide +kernel), sx_mem 905 (by decide +kernel) (by decide +kernel), ⟨by decide +kernel, by decide +kernel⟩, by decide +kernel, _, rfl, rfl⟩
theorem lk_X5_99 : sx_lkV RX5 99 yX5_isFigure cX5_isFigure 1 (some .boolean) 0 5 := ⟨Or.inl (sx_mem 914 (by decide +kernel) (by decide +kernel)), sx_mem 916 (by decide +kernel) (by decide +kernel), sx_mem 74 (by decide +kernel) (by decide +kernel), sx_mem 117 (by decide +kernel) (by decide +kernel), sx_mem 917 (by decide +kernel) (by decide +kernel), ⟨by decide +kernel, by decide +kernel⟩, by decide +kernel, _, rfl, rfl⟩
theorem fl_X5_103 : sx_fl RX5 RX5 103 RX5 TX5 30 5 22 := ⟨rfl, by decide, hin_X5, rfl, Or.inl (sx_mem 814 (by decide +kernel) (by decide +kernel))⟩
theorem fl_X5_106 : sx_fl RX5 RX5 106 RX5 TX5 30 5 15 := ⟨rfl, by decide, hin_X5, rfl, Or.inl (sx_mem 807 (by decide +kernel) (by decide +kernel))⟩
theorem lk_X5_109 : sx_lkV RX5 109 yX5_number cX5_number 5 (some .boolean) 3 5 := ⟨Or.inl (sx_mem 910 (by decide +kernel) (by decide +kernel)), sx_mem 912 (by decide +kernel) (by decide +kernel), sx_mem 73 (by decide +kernel) (by decide +kernel), sx_mem 117 (by decide +kernel) (by decide +kernel), sx_mem 913 (by decide +kernel) (by decide +kernel), ⟨by decide +kernel, by decide +kernel⟩, by decide +kernel, _, rfl, rfl⟩
theorem fl_X5_37 : sx_fl RX5 RX5 37 RX5 TX5 30 5 17 := ⟨rfl, by decide, hin_X5, rfl, Or.inl (sx_mem 809 (by decide +kernel) (by decide +kernel))⟩
theorem fl_X5_40 : sx_fl RX5 RX5 40 RX5 TX5 30 5 18 := ⟨rfl, by decide, hin_X5, rfl, Or.inl (sx_mem 810 (by decide +kernel) (by decide +kernel))⟩
theorem fl_X5_46 : sx_fl RX5 RX5 46 RX5 TX5 30 5 20 := ⟨rfl, by decide, hin_X5, rfl, Or.inl (sx_mem 812 (by decide +kernel) (by decide +kernel))⟩
theorem fl_X5_43 : sx_fl RX5 RX5 43 RX5 TX5 30 5 19 := ⟨rfl, by decide, hin_X5, rfl, Or.inl (sx_mem 811 (by decide +kernel) (by decide +kernel))⟩
theorem fl_X5_112 : sx_fl RX5 RX5 112 RX5 TX5 30 5 16 := ⟨rfl, by decide, hin_X5, rfl, Or.inl (sx_mem 808 (by decide +kernel) (by decide +kernel))⟩
theorem fl_X5_49 : sx_fl RX5 RX5 49 RX5 TX5 30 5 21 := ⟨rfl, by decide, hin_X5, rfl, Or.inl (sx_mem 813 (by decide +kernel) (by decide +kernel))⟩
theorem lk_X5_115 : sx_lkV RX5 115 yX5_readsPeak cX5_readsPeak 2 (some .boolean) 0 5 := ⟨Or.inl (sx_mem 906 (by decide +kernel) (by decide +kernel)), sx_mem 908 (by decide +kernel) (by decide +kernel), sx_mem 72 (by decide +kernel) (by decide +kernel), sx_mem 117 (by decide +kernel) (by decide +kernel), sx_mem 909 (by decide +kernel) (by decide +kernel), ⟨by decide +kernel, by decide +kernel⟩, by decide +kernel, _, rfl, rfl⟩
theorem lk_X5_118 : sx_lkV RX5 118 yX5_readsStore cX5_readsStore 2 (some .boolean) 0 5 := ⟨Or.inl (sx_mem 918 (by decide +kernel) (by decide +kernel)), sx_mem 920 (by decide +kernel) (by decide +kernel), sx_mem 75 (by decide +kernel) (by decide +kernel), sx_mem 117 (by decide +kernel) (by decide +kernel), sx_mem 921 (by decide +kernel) (by decide +kernel), ⟨by decide +kernel, by decide +kernel⟩, by decide +kernel, _, rfl, rfl⟩
theorem lk_X5_121 : sx_lkV RX5 121 yX5_readsOn cX5_readsOn 3 (some .boolean) 0 5 := ⟨Or.inl (sx_mem 922 (by decide +kernel) (by decide +kernel)), sx_mem 924 (by decide +kernel) (by decide +kernel), sx_mem 76 (by decide +kernel) (by decide +kernel), sx_mem 117 (by decide +kernel) (by decide +kernel), sx_mem 925 (by decide +kernel) (by decide +kernel), ⟨by decide +kernel, by decide +kernel⟩, by decide +kernel, _, rfl, rfl⟩
theorem lk_X5_124 : sx_lkV RX5 124 yX5_readsWind cX5_readsWind 1 (some .boolean) 0 5 := ⟨Or.inl (sx_mem 926 (by decide +kernel) (by decide +kernel)), sx_mem 928 (by decide +kernel) (by decide +kernel), sx_mem 77 (by decide +kernel) (by decide +kernel), sx_mem 117 (by decide +kernel) (by decide +kernel), sx_mem 929 (by decide +kernel) (by decide +kernel), ⟨by decide +kernel, by decide +kernel⟩, by decide +kernel, _, rfl, rfl⟩
theorem lk_X5_127 : sx_lkV RX5 127 yX5_readsItem cX5_readsItem 2 (some .boolean) 0 5 := ⟨Or.inl (sx_mem 898 (by decide +kernel) (by decide +kernel)), sx_mem 900 (by decide +kernel) (by decide +kernel), sx_mem 70 (by decide +kernel) (by decide +kernel), sx_mem 117 (by decide +kernel) (by decide +kernel), sx_mem 901 (by decide +kernel) (by decide +kernel), ⟨by decide +kernel, by decide +kernel⟩, by decide +kernel, _, rfl, rfl⟩
theorem lk_X5_130 : sx_lkV RX5 130 yX5_fault cX5_fault 2 (some .int) 0 5 := ⟨Or.inl (sx_mem 934 (by decide +kernel) (by decide +kernel)), sx_mem 895 (by decide +kernel) (by decide +kernel), sx_mem 896 (by decide +kernel) (by decide +kernel), sx_mem 117 (by decide +kernel) (by decide +kernel), sx_mem 897 (by decide +kernel) (by decide +kernel), ⟨by decide +kernel, by decide +kernel⟩, by decide +kernel, _, rfl, rfl⟩
theorem fl_X5_71 : sx_fl RX5 RX5 71 RX5 TX5 30 5 1 := ⟨rfl, by decide, hin_X5, rfl, Or.inl (sx_mem 793 (by decide +kernel) (by decide +kernel))⟩
theorem fl_X5_22 : sx_fl RX5 RX5 22 RX5 TX5 30 5 7 := ⟨rfl, by decide, hin_X5, rfl, Or.inl (sx_mem 799 (by decide +kernel) (by decide +kernel))⟩
theorem fl_X5_16 : sx_fl RX5 RX5 16 RX5 TX5 30 5 4 := ⟨rfl, by decide, hin_X5, rfl, Or.inl (sx_mem 796 (by decide +kernel) (by decide +kernel))⟩
theorem lk_X5_75 : sx_lkV RX5 75 yX5_setGuides cX5_setGuides 2 none 0 5 := ⟨Or.inl (sx_mem 784 (by decide +kernel) (by decide +kernel)), sx_mem 786 (by decide +kernel) (by decide +kernel), sx_mem 68 (by decide +kernel) (by decide +kernel), sx_mem 117 (by decide +kernel) (by decide +kernel), sx_mem 787 (by decide +kernel) (by decide +kernel), ⟨by decide +kernel, by decide +kernel⟩, by decide +kernel, _, rfl, rfl⟩
theorem fl_X5_133 : sx_fl RX5 RX5 133 RX5 TX5 30 5 5 := ⟨rfl, by decide, hin_X5, rfl, Or.inl (sx_mem 797 (by decide +kernel) (by decide +kernel))⟩
theorem fl_X5_136 : sx_fl RX5 RX5 136 RX5 TX5 30 5 9 := ⟨rfl, by decide, hin_X5, rfl, Or.inl (sx_mem 801 (by decide +kernel) (by decide +kernel))⟩
theorem fl_X5_139 : sx_fl RX5 RX5 139 RX5 TX5 30 5 24 := ⟨rfl, by decide, hin_X5, rfl, Or.inl (sx_mem 816 (by decide +kernel) (by decide +kernel))⟩
theorem fl_X5_142 : sx_fl RX5 RX5 142 RX5 TX5 30 5 29 := ⟨rfl, by decide, hin_X5, rfl, Or.inl (sx_mem 821 (by decide +kernel) (by decide +kernel))⟩
theorem lk_X5_145 : sx_lkS RX5 145 yX5_greater cX5_greater 2 (some .int) 2 := ⟨Or.inl (sx_mem 951 (by decide +kernel) (by decide +kernel)), sx_mem 952 (by decide +kernel) (by decide +kernel), sx_mem 117 (by decide +kernel) (by decide +kernel), sx_mem 953 (by decide +kernel) (by decide +kernel), ⟨by decide +kernel, by decide +kernel⟩, by decide +kernel⟩
theorem lk_X5_149 : sx_lkS RX5 149 yX5_has cX5_has 2 (some .boolean) 2 := ⟨Or.inl (sx_mem 958 (by decide +kernel) (by decide +kernel)), sx_mem 959 (by decide +kernel) (by decide +kernel), sx_mem 117 (by decide +kernel) (by decide +kernel), sx_mem 960 (by decide +kernel) (by decide +kernel), ⟨by decide +kernel, by decide +kernel⟩, by decide +kernel⟩
theorem lk_X5_153 : sx_lkV RX5 153 yX5_forceBy cX5_forceBy 3 (some .int) 2 5 := ⟨Or.inl (sx_mem 947 (by decide +kernel) (by decide +kernel)), sx_mem 949 (by decide +kernel) (by decide +kernel), sx_mem 80 (by decide +kernel) (by decide +kernel), sx_mem 117 (by decide +kernel) (by decide +kernel), sx_mem 950 (by decide +kernel) (by decide +kernel), ⟨by decide +kernel, by decide +kernel⟩, by decide +kernel, _, rfl, rfl⟩
theorem lk_X5_156 : sx_lkV RX5 156 yX5_windOf cX5_windOf 2 (some .int) 1 5 := ⟨Or.inl (sx_mem 943 (by decide +kernel) (by decide +kernel)), sx_mem 945 (by decide +kernel) (by decide +kernel), sx_mem 79 (by decide +kernel) (by decide +kernel), sx_mem 117 (by decide +kernel) (by decide +kernel), sx_mem 946 (by decide +kernel) (by decide +kernel), ⟨by decide +kernel, by decide +kernel⟩, by decide +kernel, _, rfl, rfl⟩
theorem lk_X5_159 : sx_lkV RX5 159 yX5_passesBy cX5_passesBy 5 none 1 5 := ⟨Or.inl (sx_mem 1016 (by decide +kernel) (by decide +kernel)), sx_mem 1018 (by decide +kernel) (by decide +kernel), sx_mem 88 (by decide +kernel) (by decide +kernel), sx_mem 117 (by decide +kernel) (by decide +kernel), sx_mem 1019 (by decide +kernel) (by decide +kernel), ⟨by decide +kernel, by decide +kernel⟩, by decide +kernel, _, rfl, rfl⟩
theorem lk_X5_163 : sx_lkV RX5 163 yX5_isPeak cX5_isPeak 2 (some .boolean) 1 5 := ⟨Or.inl (sx_mem 939 (by decide +kernel) (by decide +kernel)), sx_mem 941 (by decide +kernel) (by decide +kernel), sx_mem 78 (by decide +kernel) (by decide +kernel), sx_mem 117 (by decide +kernel) (by decide +kernel), sx_mem 942 (by decide +kernel) (by decide +kernel), ⟨by decide +kernel, by decide +kernel⟩, by decide +kernel, _, rfl, rfl⟩
theorem lk_X5_167 : sx_lkV RX5 167 yX5_light cX5_light 5 (some .int) 1 5 := ⟨Or.inl (sx_mem 954 (by decide +kernel) (by decide +kernel)), sx_mem 956 (by decide +kernel) (by decide +kernel), sx_mem 81 (by decide +kernel) (by decide +kernel), sx_mem 117 (by decide +kernel) (by decide +kernel), sx_mem 957 (by decide +kernel) (by decide +kernel), ⟨by decide +kernel, by decide +kernel⟩, by decide +kernel, _, rfl, rfl⟩
theorem lk_X5_170 : sx_lkS RX5 170 yX5_isTrimming cX5_isTrimming 1 (some .boolean) 1 := ⟨Or.inl (sx_mem 965 (by decide +kernel) (by decide +kernel)), sx_mem 966 (by decide +kernel) (by decide +kernel), sx_mem 117 (by decide +kernel) (by decide +kernel), sx_mem 967 (by decide +kernel) (by decide +kernel), ⟨by decide +kernel, by decide +kernel⟩, by decide +kernel⟩
theorem fl_X5_52 : sx_fl RX5 RX5 52 RX5 TX5 30 5 23 := ⟨rfl, by decide, hin_X5, rfl, Or.inl (sx_mem 815 (by decide +kernel) (by decide +kernel))⟩
theorem lk_X5_173 : sx_lkV RX5 173 yX5_lays cX5_lays 4 none 2 5 := ⟨Or.inl (sx_mem 988 (by decide +kernel) (by decide +kernel)), sx_mem 990 (by decide +kernel) (by decide +kernel), sx_mem 84 (by decide +kernel) (by decide +kernel), sx_mem 117 (by decide +kernel) (by decide +kernel), sx_mem 991 (by decide +kernel) (by decide +kernel), ⟨by decide +kernel, by decide +kernel⟩, by decide +kernel, _, rfl, rfl⟩
theorem lk_X5_177 : sx_lkV RX5 177 yX5_mayPut cX5_mayPut 3 (some .boolean) 2 5 := ⟨Or.inl (sx_mem 980 (by decide +kernel) (by decide +kernel)), sx_mem 982 (by decide +kernel) (by decide +kernel), sx_mem 82 (by decide +kernel) (by decide +kernel), sx_mem 117 (by decide +kernel) (by decide +kernel), sx_mem 983 (by decide +kernel) (by decide +kernel), ⟨by decide +kernel, by decide +kernel⟩, by decide +kernel, _, rfl, rfl⟩
theorem lk_X5_180 : sx_lkV RX5 180 yX5_notes cX5_notes 2 none 0 5 := ⟨Or.inl (sx_mem 984 (by decide +kernel) (by decide +kernel)), sx_mem 986 (by decide +kernel) (by decide +kernel), sx_mem 83 (by decide +kernel) (by decide +kernel), sx_mem 117 (by decide +kernel) (by decide +kernel), sx_mem 987 (by decide +kernel) (by decide +kernel), ⟨by decide +kernel, by decide +kernel⟩, by decide +kernel, _, rfl, rfl⟩
theorem lk_X5_183 : sx_lkV RX5 183 yX5_puts cX5_puts 4 none 3 5 := ⟨Or.inl (sx_mem 992 (by decide +kernel) (by decide +kernel)), sx_mem 994 (by decide +kernel) (by decide +kernel), sx_mem 85 (by decide +kernel) (by decide +kernel), sx_mem 117 (by decide +kernel) (by decide +kernel), sx_mem 995 (by decide +kernel) (by decide +kernel), ⟨by decide +kernel, by decide +kernel⟩, by decide +kernel, _, rfl, rfl⟩
theorem lk_X5_187 : sx_lkV RX5 187 yX5_takesOff cX5_takesOff 3 none 2 5 := ⟨Or.inl (sx_mem 1000 (by decide +kernel) (by decide +kernel)), sx_mem 1002 (by decide +kernel) (by decide +kernel), sx_mem 86 (by decide +kernel) (by decide +kernel), sx_mem 117 (by decide +kernel) (by decide +kernel), sx_mem 1003 (by decide +kernel) (by decide +kernel), ⟨by decide +kernel, by decide +kernel⟩, by decide +kernel, _, rfl, rfl⟩
theorem lk_X5_190 : sx_lkV RX5 190 yX5_goesOn cX5_goesOn 3 none 1 5 := ⟨Or.inl (sx_mem 1012 (by decide +kernel) (by decide +kernel)), sx_mem 1014 (by decide +kernel) (by decide +kernel), sx_mem 87 (by decide +kernel) (by decide +kernel), sx_mem 117 (by decide +kernel) (by decide +kernel), sx_mem 1015 (by decide +kernel) (by decide +kernel), ⟨by decide +kernel, by decide +kernel⟩, by decide +kernel, _, rfl, rfl⟩
theorem lk_X5_193 : sx_lkV RX5 193 yX5_takes cX5_takes 4 none 2 5 := ⟨Or.inl (sx_mem 1024 (by decide +kernel) (by decide +kernel)), sx_mem 1026 (by decide +kernel) (by decide +kernel), sx_mem 89 (by decide +kernel) (by decide +kernel), sx_mem 117 (by decide +kernel) (by decide +kernel), sx_mem 1027 (by decide +kernel) (by decide +kernel), ⟨by decide +kernel, by decide +kernel⟩, by decide +kernel, _, rfl, rfl⟩
theorem fl_X5_55 : sx_fl RX5 RX5 55 RX5 TX5 30 5 25 := ⟨rfl, by decide, hin_X5, rfl, Or.inl (sx_mem 817 (by decide +kernel) (by decide +kernel))⟩
theorem lk_X5_196 : sx_lkV RX5 196 yX5_pairsAlike cX5_pairsAlike 4 (some .int) 0 5 := ⟨Or.inl (sx_mem 1032 (by decide +kernel) (by decide +kernel)), sx_mem 1034 (by decide +kernel) (by decide +kernel), sx_mem 90 (by decide +kernel) (by decide +kernel), sx_mem 117 (by decide +kernel) (by decide +kernel), sx_mem 1035 (by decide +kernel) (by decide +kernel), ⟨by decide +kernel, by decide +kernel⟩, by decide +kernel, _, rfl, rfl⟩
theorem lk_X5_199 : sx_lkV RX5 199 yX5_knownBy cX5_knownBy 3 (some .int) 1 5 := ⟨Or.inl (sx_mem 1040 (by decide +kernel) (by decide +kernel)), sx_mem 1042 (by decide +kernel) (by decide +kernel), sx_mem 91 (by decide +kernel) (by decide +kernel), sx_mem 117 (by decide +kernel) (by decide +kernel), sx_mem 1043 (by decide +kernel) (by decide +kernel), ⟨by decide +kernel, by decide +kernel⟩, by decide +kernel, _, rfl, rfl⟩
theorem lk_X5_202 : sx_lkV RX5 202 yX5_begin cX5_begin 1 none 0 5 := ⟨Or.inl (sx_mem 1048 (by decide +kernel) (by decide +kernel)), sx_mem 1050 (by decide +kernel) (by decide +kernel), sx_mem 92 (by decide +kernel) (by decide +kernel), sx_mem 117 (by decide +kernel) (by decide +kernel), sx_mem 1051 (by decide +kernel) (by decide +kernel), ⟨by decide +kernel, by decide +kernel⟩, by decide +kernel, _, rfl, rfl⟩
theorem lk_X5_205 : sx_lkV RX5 205 yX5_putBack cX5_putBack 1 none 0 5 := ⟨Or.inl (sx_mem 1052 (by decide +kernel) (by decide +kernel)), sx_mem 1054 (by decide +kernel) (by decide +kernel), sx_mem 93 (by decide +kernel) (by decide +kernel), sx_mem 117 (by decide +kernel) (by decide +kernel), sx_mem 1055 (by decide +kernel) (by decide +kernel), ⟨by decide +kernel, by decide +kernel⟩, by decide +kernel, _, rfl, rfl⟩
theorem lk_X5_208 : sx_lkV RX5 208 yX5_needed cX5_needed 7 (some .int) 3 5 := ⟨Or.inl (sx_mem 1064 (by decide +kernel) (by decide +kernel)), sx_mem 1066 (by decide +kernel) (by decide +kernel), sx_mem 94 (by decide +kernel) (by decide +kernel), sx_mem 117 (by decide +kernel) (by decide +kernel), sx_mem 1067 (by decide +kernel) (by decide +kernel), ⟨by decide +kernel, by decide +kernel⟩, by decide +kernel, _, rfl, rfl⟩
theorem cs_X5_212 : Cond.constant RX5 212 1048576 ∈ sx_gw := sx_mem 1072 (by decide +kernel) (by decide +kernel)
theorem lk_X5_213 : sx_lkS RX5 213 yX5_bits cX5_bits 3 (some .int) 1 := ⟨Or.inl (sx_mem 1073 (by decide +kernel) (by decide +kernel)), sx_mem 1074 (by decide +kernel) (by decide +kernel), sx_mem 117 (by decide +kernel) (by decide +kernel), sx_mem 1075 (by decide +kernel) (by decide +kernel), ⟨by decide +kernel, by decide +kernel⟩, by decide +kernel⟩
theorem lk_X5_216 : sx_lkV RX5 216 yX5_tells cX5_tells 5 (some .boolean) 1 5 := ⟨Or.inl (sx_mem 1076 (by decide +kernel) (by decide +kernel)), sx_mem 1078 (by decide +kernel) (by decide +kernel), sx_mem 95 (by decide +kernel) (by decide +kernel), sx_mem 117 (by decide +kernel) (by decide +kernel), sx_mem 1079 (by decide +kernel) (by decide +kernel), ⟨by decide +kernel, by decide +kernel⟩, by decide +kernel, _, rfl, rfl⟩
theorem fl_X5_58 : sx_fl RX5 RX5 58 RX5 TX5 30 5 26 := ⟨rfl, by decide, hin_X5, rfl, Or.inl (sx_mem 818 (by decide +kernel) (by decide +kernel))⟩
theorem lk_X5_219 : sx_lkV RX5 219 yX5_adds cX5_adds 4 (some .int) 0 5 := ⟨Or.inl (sx_mem 1084 (by decide +kernel) (by decide +kernel)), sx_mem 1086 (by decide +kernel) (by decide +kernel), sx_mem 96 (by decide +kernel) (by decide +kernel), sx_mem 117 (by decide +kernel) (by decide +kernel), sx_mem 1087 (by decide +kernel) (by decide +kernel), ⟨by decide +kernel, by decide +kernel⟩, by decide +kernel, _, rfl, rfl⟩
theorem fl_X5_28 : sx_fl RX5 RX5 28 RX5 TX5 30 5 10 := ⟨rfl, by decide, hin_X5, rfl, Or.inl (sx_mem 802 (by decide +kernel) (by decide +kernel))⟩
theorem fl_X5_31 : sx_fl RX5 RX5 31 RX5 TX5 30 5 11 := ⟨rfl, by decide, hin_X5, rfl, Or.inl (sx_mem 803 (by decide +kernel) (by decide +kernel))⟩
theorem lk_X5_222 : sx_lkV RX5 222 yX5_those cX5_those 5 (some .int) 0 5 := ⟨Or.inl (sx_mem 1100 (by decide +kernel) (by decide +kernel)), sx_mem 1102 (by decide +kernel) (by decide +kernel), sx_mem 97 (by decide +kernel) (by decide +kernel), sx_mem 117 (by decide +kernel) (by decide +kernel), sx_mem 1103 (by decide +kernel) (by decide +kernel), ⟨by decide +kernel, by decide +kernel⟩, by decide +kernel, _, rfl, rfl⟩
theorem fl_X5_61 : sx_fl RX5 RX5 61 RX5 TX5 30 5 27 := ⟨rfl, by decide, hin_X5, rfl, Or.inl (sx_mem 819 (by decide +kernel) (by decide +kernel))⟩
theorem lk_X5_225 : sx_lkV RX5 225 yX5_mayHave cX5_mayHave 3 (some .boolean) 2 5 := ⟨Or.inl (sx_mem 1116 (by decide +kernel) (by decide +kernel)), sx_mem 1118 (by decide +kernel) (by decide +kernel), sx_mem 99 (by decide +kernel) (by decide +kernel), sx_mem 117 (by decide +kernel) (by decide +kernel), sx_mem 1119 (by decide +kernel) (by decide +kernel), ⟨by decide +kernel, by decide +kernel⟩, by decide +kernel, _, rfl, rfl⟩
theorem lk_X5_228 : sx_lkV RX5 228 yX5_setWays cX5_setWays 5 none 0 5 := ⟨Or.inl (sx_mem 1112 (by decide +kernel) (by decide +kernel)), sx_mem 1114 (by decide +kernel) (by decide +kernel), sx_mem 98 (by decide +kernel) (by decide +kernel), sx_mem 117 (by decide +kernel) (by decide +kernel), sx_mem 1115 (by decide +kernel) (by decide +kernel), ⟨by decide +kernel, by decide +kernel⟩, by decide +kernel, _, rfl, rfl⟩
theorem cs_X5_231 : Cond.constantLong RX5 231 10 ∈ sx_gw := sx_mem 1124 (by decide +kernel) (by decide +kernel)
theorem lk_X5_233 : sx_lkS RX5 233 yX5_common cX5_common 10 (some .long) 2 := ⟨Or.inl (sx_mem 1125 (by decide +kernel) (by decide +kernel)), sx_mem 1126 (by decide +kernel) (by decide +kernel), sx_mem 117 (by decide +kernel) (by decide +kernel), sx_mem 1127 (by decide +kernel) (by decide +kernel), ⟨by decide +kernel, by decide +kernel⟩, by decide +kernel⟩
theorem cs_X5_237 : Cond.constantLong RX5 237 7919 ∈ sx_gw := sx_mem 1132 (by decide +kernel) (by decide +kernel)
theorem cs_X5_239 : Cond.constantLong RX5 239 6151 ∈ sx_gw := sx_mem 1133 (by decide +kernel) (by decide +kernel)
theorem cs_X5_241 : Cond.constantLong RX5 241 65521 ∈ sx_gw := sx_mem 1134 (by decide +kernel) (by decide +kernel)
theorem lk_X5_243 : sx_lkV RX5 243 yX5_onMany cX5_onMany 3 (some .int) 0 5 := ⟨Or.inl (sx_mem 1135 (by decide +kernel) (by decide +kernel)), sx_mem 1137 (by decide +kernel) (by decide +kernel), sx_mem 100 (by decide +kernel) (by decide +kernel), sx_mem 117 (by decide +kernel) (by decide +kernel), sx_mem 1138 (by decide +kernel) (by decide +kernel), ⟨by decide +kernel, by decide +kernel⟩, by decide +kernel, _, rfl, rfl⟩
theorem fl_X5_64 : sx_fl RX5 RX5 64 RX5 TX5 30 5 28 := ⟨rfl, by decide, hin_X5, rfl, Or.inl (sx_mem 820 (by decide +kernel) (by decide +kernel))⟩
theorem lk_X5_246 : sx_lkV RX5 246 yX5_storedAll cX5_storedAll 3 (some .int) 0 5 := ⟨Or.inl (sx_mem 1151 (by decide +kernel) (by decide +kernel)), sx_mem 1153 (by decide +kernel) (by decide +kernel), sx_mem 101 (by decide +kernel) (by decide +kernel), sx_mem 117 (by decide +kernel) (by decide +kernel), sx_mem 1154 (by decide +kernel) (by decide +kernel), ⟨by decide +kernel, by decide +kernel⟩, by decide +kernel, _, rfl, rfl⟩
theorem lk_X5_249 : sx_lkV RX5 249 yX5_pinsAll cX5_pinsAll 3 (some .int) 0 5 := ⟨Or.inl (sx_mem 1155 (by decide +kernel) (by decide +kernel)), sx_mem 1157 (by decide +kernel) (by decide +kernel), sx_mem 102 (by decide +kernel) (by decide +kernel), sx_mem 117 (by decide +kernel) (by decide +kernel), sx_mem 1158 (by decide +kernel) (by decide +kernel), ⟨by decide +kernel, by decide +kernel⟩, by decide +kernel, _, rfl, rfl⟩
theorem lk_X5_252 : sx_lkV RX5 252 yX5_ownKnown cX5_ownKnown 3 (some .int) 0 5 := ⟨Or.inl (sx_mem 1159 (by decide +kernel) (by decide +kernel)), sx_mem 1161 (by decide +kernel) (by decide +kernel), sx_mem 103 (by decide +kernel) (by decide +kernel), sx_mem 117 (by decide +kernel) (by decide +kernel), sx_mem 1162 (by decide +kernel) (by decide +kernel), ⟨by decide +kernel, by decide +kernel⟩, by decide +kernel, _, rfl, rfl⟩
theorem g_putN {d : sx_D} {κ : sx_C} {cc : ByteArray} {nL k n pc pc' : Nat} {own : String} {rm : Room} {lv : List (Option Value)} {st : List Value} {ws : va_W} (X : sx_X d κ cc nL own rm) {ref C : String} {T : u_T} {N ci j index a : Nat} {x : Int32} {fs : List Value} {w2 : Int32 → va_W} {ty0 : Nat → FieldType} {ρ : Type} {F : Int32 → Option ρ} {r : ρ} (fl : sx_fl own ref index C T N ci j) (fw : sx_fw T N ty0) (hfin : (T j).2.2.2 = false) (hd : decode cc pc = .ok (.putfield index, 3)) (hp : pc + 3 = pc') (q0 : Nat) (he : ws[q0]? = some (a, .inr (ci, fs))) (hn : ∀ v : Int32, narrow (ty0 j) (.int v) = .int v) (hfit : ∀ v : Int32, fits (ty0 j) (.int v) = true) (hl0 : j < fs.length) (hw : ∀ v : Int32, ws.set q0 (a, .inr (ci, fs.set j (.int v))) = w2 v) (hf : sx_lt x F = some r) (K : ∀ v : Int32, F v = some r → sx_G d κ nL k n pc' lv st (w2 v)) : sx_G d κ nL k n pc lv (.int x :: .ref a :: st) ws := g_put X fl fw hfin hd hp q0 he (hn x) (hfit x) hl0 (hw x) (K x hf)
theorem sx_ok8_s {ρ : Type} {v : Int32} {K : Option ρ} {r : ρ} (h : sx_ok8 .char v K = some r) : narrow .char (.int v) = .int v ∧ K = some r := by
  unfold sx_ok8 at h
  by_cases q : vp_nar .char v = v
  · rw [if_pos q] at h
    refine ⟨?_, h⟩
    have h1 : narrow .char (.int v) = .int (vp_nar .char v) := rfl
    rw [h1, q]
  · rw [if_neg q] at h; cases h
end
section
def fX3_pinsOn (s_cells : Nat → Int32) (v1 : Int32) (v2 : Int32) : Option (Int32) :=
  sx_lt ((v1 * (5 : Int32)) + v2) fun x1 =>
  if x1 < 0 then
    some (0 : Int32)
  else
    if (30 : Int32) ≤ x1 then
      some (0 : Int32)
    else
      sx_rd s_cells 42 x1 fun x2 =>
      some x2
set_option maxHeartbeats 4000000 in
set_option maxRecDepth 100000 in
theorem ctX3_pinsOn (l : Launch) (d : sx_D) (q : Nat) (q_cells : Nat) (s_cells : Nat → Int32) (v1 : Int32) (v2 : Int32) (r : Int32) (hf : fX3_pinsOn s_cells v1 v2 = some r) : sx_I l d yX3_pinsOn cX3_pinsOn 4 .int 0 [.ref q, .int v1, .int v2] [oX3 q q_cells, ai d q_cells 42 s_cells] [oX3 q q_cells, ai d q_cells 42 s_cells] r := by
  refine sx_I.intro (lv0 := [some (.ref q), some (.int v1), some (.int v2), none]) (by decide +kernel) (Nat.le_of_ble_eq_true rfl) rfl ?_
  intro κ X hR
  have X : sx_X d κ cX3_pinsOn 4 RX3 (sx_rm 0) := X
  unfold fX3_pinsOn at hf
  refine g_iload_n (pc' := 1) X dX3_pinsOn_0 rfl rfl rfl ?_
  refine g_iconst (v := 5) (pc' := 2) X dX3_pinsOn_1 rfl (by decide) ?_
  refine g_imul (pc' := 3) X dX3_pinsOn_2 rfl ?_
  refine g_iload_n (pc' := 4) X dX3_pinsOn_3 rfl rfl rfl ?_
  refine g_iadd (pc' := 5) X dX3_pinsOn_4 rfl ?_
  refine g_istore_nN (lv' := fun x1 => [some (.ref q), some (.int v1), some (.int v2), some (.int x1)]) (pc' := 6) X dX3_pinsOn_5 rfl rfl (by decide) rfl (fun _ => rfl) hf (fun x1 hf => ?_)
  refine g_iload_n (pc' := 7) X dX3_pinsOn_6 rfl rfl rfl ?_
  refine g_if_lt (tgt := 25) (pc' := 10) X dX3_pinsOn_7 (by decide) rfl hf (fun hf => ?_) (fun hf => ?_)
  · refine g_iconst (v := 0) (pc' := 26) X dX3_pinsOn_25 rfl (by decide) ?_
    cases hf
    exact hR _ _ dX3_pinsOn_26 rfl
  · refine g_iload_n (pc' := 11) X dX3_pinsOn_10 rfl rfl rfl ?_
    refine g_bipush (v := 30) (pc' := 13) X dX3_pinsOn_11 rfl (by decide) ?_
    refine g_icmp_ge (tgt := 25) (pc' := 16) X dX3_pinsOn_13 (by decide) rfl hf (fun hf => ?_) (fun hf => ?_)
    · refine g_iconst (v := 0) (pc' := 26) X dX3_pinsOn_25 rfl (by decide) ?_
      cases hf
      exact hR _ _ dX3_pinsOn_26 rfl
    · refine g_aload_n (pc' := 17) X dX3_pinsOn_16 rfl rfl rfl ?_
      refine g_get (pc' := 20) X fl_X3_9 dX3_pinsOn_17 rfl 0 rfl rfl ?_
      refine g_iload_n (pc' := 21) X dX3_pinsOn_20 rfl rfl rfl ?_
      refine g_iald (pc' := 22) X dX3_pinsOn_21 rfl 1 rfl hf (fun x2 hf => ?_)
      refine g_goto (tgt := 26) X dX3_pinsOn_22 (by decide) ?_
      cases hf
      exact hR _ _ dX3_pinsOn_26 rfl
def fX3_isOn (s_cells : Nat → Int32) (v1 : Int32) (v2 : Int32) : Option (Int32) :=
  (fX3_pinsOn s_cells v1 v2).bind fun x1 =>
  if x1 ≤ 0 then
    some (0 : Int32)
  else
    some (1 : Int32)
set_option maxHeartbeats 4000000 in
set_option maxRecDepth 100000 in
theorem ctX3_isOn (l : Launch) (d : sx_D) (q : Nat) (q_cells : Nat) (s_cells : Nat → Int32) (v1 : Int32) (v2 : Int32) (r : Int32) (hf : fX3_isOn s_cells v1 v2 = some r) : sx_I l d yX3_isOn cX3_isOn 3 .boolean 1 [.ref q, .int v1, .int v2] [oX3 q q_cells, ai d q_cells 42 s_cells] [oX3 q q_cells, ai d q_cells 42 s_cells] r := by
  refine sx_I.intro (lv0 := [some (.ref q), some (.int v1), some (.int v2)]) (by decide +kernel) (Nat.le_of_ble_eq_true rfl) rfl ?_
  intro κ X hR
  have X : sx_X d κ cX3_isOn 3 RX3 (sx_rm 1) := X
  unfold fX3_isOn at hf
  refine g_aload_n (pc' := 1) X dX3_isOn_0 rfl rfl rfl ?_
  refine g_iload_n (pc' := 2) X dX3_isOn_1 rfl rfl rfl ?_
  refine g_iload_n (pc' := 3) X dX3_isOn_2 rfl rfl rfl ?_
  refine g_callVi0 (pc' := 6) (As := [.int v1, .int v2]) (b := q) (st := []) (w2 := fun x1 => [oX3 q q_cells, ai d q_cells 42 s_cells]) X lk_X3_30 dX3_isOn_3 rfl rfl rfl (by decide) (by decide) rfl [0, 1] (by decide) rfl hf (fun l x1 h => ctX3_pinsOn l d q q_cells s_cells v1 v2 x1 h) (fun _ => rfl) (fun _ => rfl) (fun x1 hnx1 hf => ?_)
  refine g_if_le (tgt := 13) (pc' := 9) X dX3_isOn_6 (by decide) rfl hf (fun hf => ?_) (fun hf => ?_)
  · refine g_iconst (v := 0) (pc' := 14) X dX3_isOn_13 rfl (by decide) ?_
    cases hf
    exact hR _ _ dX3_isOn_14 rfl
  · refine g_iconst (v := 1) (pc' := 10) X dX3_isOn_9 rfl (by decide) ?_
    refine g_goto (tgt := 14) X dX3_isOn_10 (by decide) ?_
    cases hf
    exact hR _ _ dX3_isOn_14 rfl
def bX3_looksOf_4 (s_cells : Nat → Int32) (v1 : Int32) : (Int32 × Int32) → Option ((Int32 × Int32) ⊕ (Int32)) := fun (v2, v3) =>
  if (5 : Int32) ≤ v3 then
    some (.inr v2)
  else
    (fX3_isOn s_cells v1 v3).bind fun x1 =>
    if x1 = 0 then
      some (.inl (v2, v3 + (1 : Int32)))
    else
      sx_lt (v2 ||| ((1 : Int32) <<< (v3 &&& 31))) fun x2 =>
      some (.inl (x2, v3 + (1 : Int32)))
def fX3_looksOf (s_cells : Nat → Int32) (v1 : Int32) : Option (Int32) :=
  (sx_it 1000 (bX3_looksOf_4 s_cells v1) ((0 : Int32), (0 : Int32))).bind fun w4 =>
  some w4
set_option maxHeartbeats 4000000 in
set_option maxRecDepth 100000 in
theorem lX3_looksOf_4 (d : sx_D) (κ : sx_C) (q : Nat) (q_cells : Nat) (s_cells : Nat → Int32) (v1 : Int32) (X : sx_X d κ cX3_looksOf 4 RX3 (sx_rm 2)) (y : Int32) (hE30 : ∀ (v2 : Int32), y = v2 → sx_G d κ 4 0 0 30 [none, none, some (.int v2), none] [] [oX3 q q_cells, ai d q_cells 42 s_cells]) : ∀ (n : Nat) (s : Int32 × Int32), sx_it n (bX3_looksOf_4 s_cells v1) s = some y → (match s with | (v2, v3) => sx_G d κ 4 0 0 4 [some (.ref q), some (.int v1), some (.int v2), some (.int v3)] [] [oX3 q q_cells, ai d q_cells 42 s_cells]) := by
  refine sx_it_run (bX3_looksOf_4 s_cells v1) (fun s => match s with | (v2, v3) => sx_G d κ 4 0 0 4 [some (.ref q), some (.int v1), some (.int v2), some (.int v3)] [] [oX3 q q_cells, ai d q_cells 42 s_cells]) y ?_
  rintro ⟨v2, v3⟩ x hf hb he
  show sx_G d κ 4 0 0 4 [some (.ref q), some (.int v1), some (.int v2), some (.int v3)] [] [oX3 q q_cells, ai d q_cells 42 s_cells]
  unfold bX3_looksOf_4 at hf
  refine g_iload_n (pc' := 5) X dX3_looksOf_4 rfl rfl rfl ?_
  refine g_iconst (v := 5) (pc' := 6) X dX3_looksOf_5 rfl (by decide) ?_
  refine g_icmp_ge (tgt := 30) (pc' := 9) X dX3_looksOf_6 (by decide) rfl hf (fun hf => ?_) (fun hf => ?_)
  · exact sx_weak [false, false, true, false] rfl (hE30 _ (sx_ex hf he).symm)
  · refine g_aload_n (pc' := 10) X dX3_looksOf_9 rfl rfl rfl ?_
    refine g_iload_n (pc' := 11) X dX3_looksOf_10 rfl rfl rfl ?_
    refine g_iload_n (pc' := 12) X dX3_looksOf_11 rfl rfl rfl ?_
    refine g_callVi0 (pc' := 15) (As := [.int v1, .int v3]) (b := q) (st := []) (w2 := fun x1 => [oX3 q q_cells, ai d q_cells 42 s_cells]) X lk_X3_34 dX3_looksOf_12 rfl rfl rfl (by decide) (by decide) rfl [0, 1] (by decide) rfl hf (fun l x1 h => ctX3_isOn l d q q_cells s_cells v1 v3 x1 h) (fun _ => rfl) (fun _ => rfl) (fun x1 hnx1 hf => ?_)
    refine g_if_eq (tgt := 24) (pc' := 18) X dX3_looksOf_15 (by decide) rfl hf (fun hf => ?_) (fun hf => ?_)
    · refine g_iinc (v := 1) (lv' := [some (.ref q), some (.int v1), some (.int v2), some (.int (v3 + (1 : Int32)))]) (pc' := 27) X dX3_looksOf_24 rfl rfl (by decide) (by decide) rfl rfl ?_
      refine g_goto (tgt := 4) X dX3_looksOf_27 (by decide) ?_
      have hk := sx_bk hf hb
      exact sx_weak [true, true, true, true] rfl hk
    · refine g_iload_n (pc' := 19) X dX3_looksOf_18 rfl rfl rfl ?_
      refine g_iconst (v := 1) (pc' := 20) X dX3_looksOf_19 rfl (by decide) ?_
      refine g_iload_n (pc' := 21) X dX3_looksOf_20 rfl rfl rfl ?_
      refine g_ishl (pc' := 22) X dX3_looksOf_21 rfl ?_
      refine g_ior (pc' := 23) X dX3_looksOf_22 rfl ?_
      refine g_istore_nN (lv' := fun x2 => [some (.ref q), some (.int v1), some (.int x2), some (.int v3)]) (pc' := 24) X dX3_looksOf_23 rfl rfl (by decide) rfl (fun _ => rfl) hf (fun x2 hf => ?_)
      refine g_iinc (v := 1) (lv' := [some (.ref q), some (.int v1), some (.int x2), some (.int (v3 + (1 : Int32)))]) (pc' := 27) X dX3_looksOf_24 rfl rfl (by decide) (by decide) rfl rfl ?_
      refine g_goto (tgt := 4) X dX3_looksOf_27 (by decide) ?_
      have hk := sx_bk hf hb
      exact sx_weak [true, true, true, true] rfl hk
set_option maxHeartbeats 4000000 in
set_option maxRecDepth 100000 in
theorem ctX3_looksOf (l : Launch) (d : sx_D) (q : Nat) (q_cells : Nat) (s_cells : Nat → Int32) (v1 : Int32) (r : Int32) (hf : fX3_looksOf s_cells v1 = some r) : sx_I l d yX3_looksOf cX3_looksOf 4 .int 2 [.ref q, .int v1] [oX3 q q_cells, ai d q_cells 42 s_cells] [oX3 q q_cells, ai d q_cells 42 s_cells] r := by
  refine sx_I.intro (lv0 := [some (.ref q), some (.int v1), none, none]) (by decide +kernel) (Nat.le_of_ble_eq_true rfl) rfl ?_
  intro κ X hR
  have X : sx_X d κ cX3_looksOf 4 RX3 (sx_rm 2) := X
  unfold fX3_looksOf at hf
  refine g_iconst (v := 0) (pc' := 1) X dX3_looksOf_0 rfl (by decide) ?_
  refine g_istore_n (lv' := [some (.ref q), some (.int v1), some (.int (0 : Int32)), none]) (pc' := 2) X dX3_looksOf_1 rfl rfl (by decide) rfl rfl ?_
  refine g_iconst (v := 0) (pc' := 3) X dX3_looksOf_2 rfl (by decide) ?_
  refine g_istore_n (lv' := [some (.ref q), some (.int v1), some (.int (0 : Int32)), some (.int (0 : Int32))]) (pc' := 4) X dX3_looksOf_3 rfl rfl (by decide) rfl rfl ?_
  obtain ⟨y3, hy3, hf⟩ := sx_bd hf
  refine sx_weak [true, true, true, true] rfl (lX3_looksOf_4 d κ q q_cells s_cells v1 X y3 ?_ 1000 ((0 : Int32), (0 : Int32)) hy3)
  rintro w4 rfl
  refine g_iload_n (pc' := 31) X dX3_looksOf_30 rfl rfl rfl ?_
  cases hf
  exact hR _ _ dX3_looksOf_31 rfl
end
